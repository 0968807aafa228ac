set_option maxRecDepth 20000 in
theorem c_X12_readNext {X : ya_X} {G : ya_G} {d : ya_D} {rr : ya_D} (hG : ya_Bk ya_sh ya_ln G 0) (h : f_X12_readNext d = some rr) : ya_Ct X yX12_readNext Y_X12_readNext [.ref (X.2.1 + 83)] G d (none, G, rr) := by
  refine ya_ct (by decide +kernel) rfl rfl (Nat.le_of_ble_eq_true rfl) ?_
  unfold f_X12_readNext at h
  show ya_E X Y_X12_readNext (ya_M X (none, G, rr) 0 0) 0 [(0, .ref (X.2.1 + 83))] [] G d 0 0
  refine ya_aload_n 0 rfl dX12_readNext_0 ?_
  refine ya_ldcS 10 rfl dX12_readNext_1 ?_
  obtain ⟨x3, e3, h⟩ := ya_ob h
  refine ya_callVi (S := []) (c_X12_is hG e3) m_X12_is ⟨rfl, rfl⟩ ml_X12_164 rfl ⟨Nat.le_of_ble_eq_true rfl, Nat.le_of_ble_eq_true rfl⟩ (Nat.le_of_ble_eq_true rfl) (hG.lt0 83 (by decide)) (hG.o0 83 rfl) (by decide) rfl rfl ⟨Nat.le_refl _, Nat.le_refl _⟩ dX12_readNext_3 rfl ?_
  refine ya_j1_s h (fun t0_68 => ya_E X Y_X12_readNext (ya_M X (none, G, rr) 0 0) 68 [(0, .ref (X.2.1 + 83))] [.int t0_68] G d 0 0) (fun t0_68 h => ?_) (fun k68 hk68 h => ?_)
  · refine ya_istore_n [(1, .int t0_68), (0, .ref (X.2.1 + 83))] (by decide) rfl dX12_readNext_68 ?_
    refine ya_iload_n 0 rfl dX12_readNext_69 ?_
    refine ya_j1_s h (fun d_78 => ya_E X Y_X12_readNext (ya_M X (none, G, rr) 0 0) 78 [(0, .ref (X.2.1 + 83))] [] G d_78 0 0) (fun d_78 h => ?_) (fun k78 hk78 h => ?_)
    · refine ya_aload_n 0 rfl dX12_readNext_78 ?_
      refine ya_ldcS 10 rfl dX12_readNext_79 ?_
      obtain ⟨x81, e81, h⟩ := ya_ob h
      refine ya_callVi (S := []) (c_X12_is hG e81) m_X12_is ⟨rfl, rfl⟩ ml_X12_164 rfl ⟨Nat.le_of_ble_eq_true rfl, Nat.le_of_ble_eq_true rfl⟩ (Nat.le_of_ble_eq_true rfl) (hG.lt0 83 (by decide)) (hG.o0 83 rfl) (by decide) rfl rfl ⟨Nat.le_refl _, Nat.le_refl _⟩ dX12_readNext_81 rfl ?_
      refine ya_j1_s h (fun d_141 => ya_E X Y_X12_readNext (ya_M X (none, G, rr) 0 0) 141 [(0, .ref (X.2.1 + 83))] [] G d_141 0 0) (fun d_141 h => ?_) (fun k141 hk141 h => ?_)
      · refine ya_aload_n 0 rfl dX12_readNext_141 ?_
        obtain ⟨x142, e142, h⟩ := ya_ob h
        refine ya_callVi (S := []) (c_X12_good hG e142) m_X12_good ⟨rfl, rfl⟩ ml_X12_150 rfl ⟨Nat.le_of_ble_eq_true rfl, Nat.le_of_ble_eq_true rfl⟩ (Nat.le_of_ble_eq_true rfl) (hG.lt0 83 (by decide)) (hG.o0 83 rfl) (by decide) rfl rfl ⟨Nat.le_refl _, Nat.le_refl _⟩ dX12_readNext_142 rfl ?_
        refine ya_ifne 149 (by decide) dX12_readNext_145 (fun c => ?_) (fun c => ?_)
        · replace h := ya_itef h c
          refine ya_aload_n 0 rfl dX12_readNext_149 ?_
          refine ya_ldcS 10 rfl dX12_readNext_150 ?_
          obtain ⟨x152, d152, e152, h⟩ := ya_ob2 h
          refine ya_callVi (S := []) (c_X12_takes hG e152) m_X12_takes ⟨rfl, rfl⟩ ml_X12_171 rfl ⟨Nat.le_of_ble_eq_true rfl, Nat.le_of_ble_eq_true rfl⟩ (Nat.le_of_ble_eq_true rfl) (hG.lt0 83 (by decide)) (hG.o0 83 rfl) (by decide) rfl rfl ⟨Nat.le_refl _, Nat.le_refl _⟩ dX12_readNext_152 rfl ?_
          refine ya_ifeq 165 (by decide) dX12_readNext_155 (fun c => ?_) (fun c => ?_)
          · replace h := ya_itet h c
            refine ya_aload_n 0 rfl dX12_readNext_165 ?_
            refine ya_ldcS 11 rfl dX12_readNext_166 ?_
            obtain ⟨x168, d168, e168, h⟩ := ya_ob2 h
            refine ya_callVi (S := []) (c_X12_takes hG e168) m_X12_takes ⟨rfl, rfl⟩ ml_X12_171 rfl ⟨Nat.le_of_ble_eq_true rfl, Nat.le_of_ble_eq_true rfl⟩ (Nat.le_of_ble_eq_true rfl) (hG.lt0 83 (by decide)) (hG.o0 83 rfl) (by decide) rfl rfl ⟨Nat.le_refl _, Nat.le_refl _⟩ dX12_readNext_168 rfl ?_
            refine ya_ifeq 189 (by decide) dX12_readNext_171 (fun c => ?_) (fun c => ?_)
            · replace h := ya_itet h c
              refine ya_aload_n 0 rfl dX12_readNext_189 ?_
              refine ya_ldcS 12 rfl dX12_readNext_190 ?_
              obtain ⟨x192, d192, e192, h⟩ := ya_ob2 h
              refine ya_callVi (S := []) (c_X12_takes hG e192) m_X12_takes ⟨rfl, rfl⟩ ml_X12_171 rfl ⟨Nat.le_of_ble_eq_true rfl, Nat.le_of_ble_eq_true rfl⟩ (Nat.le_of_ble_eq_true rfl) (hG.lt0 83 (by decide)) (hG.o0 83 rfl) (by decide) rfl rfl ⟨Nat.le_refl _, Nat.le_refl _⟩ dX12_readNext_192 rfl ?_
              refine ya_ifeq 213 (by decide) dX12_readNext_195 (fun c => ?_) (fun c => ?_)
              · replace h := ya_itet h c
                refine ya_aload_n 0 rfl dX12_readNext_213 ?_
                refine ya_ldcS 13 rfl dX12_readNext_214 ?_
                obtain ⟨x216, d216, e216, h⟩ := ya_ob2 h
                refine ya_callVi (S := []) (c_X12_takes hG e216) m_X12_takes ⟨rfl, rfl⟩ ml_X12_171 rfl ⟨Nat.le_of_ble_eq_true rfl, Nat.le_of_ble_eq_true rfl⟩ (Nat.le_of_ble_eq_true rfl) (hG.lt0 83 (by decide)) (hG.o0 83 rfl) (by decide) rfl rfl ⟨Nat.le_refl _, Nat.le_refl _⟩ dX12_readNext_216 rfl ?_
                refine ya_ifeq 229 (by decide) dX12_readNext_219 (fun c => ?_) (fun c => ?_)
                · replace h := ya_itet h c
                  refine ya_aload_n 0 rfl dX12_readNext_229 ?_
                  refine ya_ldcS 14 rfl dX12_readNext_230 ?_
                  obtain ⟨x232, d232, e232, h⟩ := ya_ob2 h
                  refine ya_callVi (S := []) (c_X12_takes hG e232) m_X12_takes ⟨rfl, rfl⟩ ml_X12_171 rfl ⟨Nat.le_of_ble_eq_true rfl, Nat.le_of_ble_eq_true rfl⟩ (Nat.le_of_ble_eq_true rfl) (hG.lt0 83 (by decide)) (hG.o0 83 rfl) (by decide) rfl rfl ⟨Nat.le_refl _, Nat.le_refl _⟩ dX12_readNext_232 rfl ?_
                  refine ya_ifeq 254 (by decide) dX12_readNext_235 (fun c => ?_) (fun c => ?_)
                  · replace h := ya_itet h c
                    refine ya_aload_n 0 rfl dX12_readNext_254 ?_
                    refine ya_ldcS 15 rfl dX12_readNext_255 ?_
                    obtain ⟨x257, d257, e257, h⟩ := ya_ob2 h
                    refine ya_callVi (S := []) (c_X12_takes hG e257) m_X12_takes ⟨rfl, rfl⟩ ml_X12_171 rfl ⟨Nat.le_of_ble_eq_true rfl, Nat.le_of_ble_eq_true rfl⟩ (Nat.le_of_ble_eq_true rfl) (hG.lt0 83 (by decide)) (hG.o0 83 rfl) (by decide) rfl rfl ⟨Nat.le_refl _, Nat.le_refl _⟩ dX12_readNext_257 rfl ?_
                    refine ya_ifeq 270 (by decide) dX12_readNext_260 (fun c => ?_) (fun c => ?_)
                    · replace h := ya_itet h c
                      refine ya_aload_n 0 rfl dX12_readNext_270 ?_
                      obtain ⟨d271, e271, h⟩ := ya_ob h
                      refine ya_callVv (S := []) (c_X12_advance hG e271) m_X12_advance ⟨rfl, rfl⟩ ml_X12_168 rfl ⟨Nat.le_of_ble_eq_true rfl, Nat.le_of_ble_eq_true rfl⟩ (Nat.le_of_ble_eq_true rfl) (hG.lt0 83 (by decide)) (hG.o0 83 rfl) (by decide) rfl rfl ⟨Nat.le_refl _, Nat.le_refl _⟩ dX12_readNext_271 rfl ?_
                      refine ya_aload_n 0 rfl dX12_readNext_274 ?_
                      refine ya_getR fo_X12_31 (hG.o0 83 rfl) (hG.lt0 83 (by decide)) (hG.l0 87 rfl) dX12_readNext_275 ?_
                      refine ya_iconst 5 (by decide) dX12_readNext_278 ?_
                      refine ya_aload_n 0 rfl dX12_readNext_279 ?_
                      refine ya_iconst 0 (by decide) dX12_readNext_280 ?_
                      refine ya_bipush 99 (by decide) dX12_readNext_281 ?_
                      obtain ⟨x283, d283, e283, h⟩ := ya_ob2 h
                      refine ya_callVi (S := [.int 5, .ref (X.2.1 + 89)]) (c_X12_number hG e283) m_X12_number ⟨rfl, rfl⟩ ml_X12_182 rfl ⟨Nat.le_of_ble_eq_true rfl, Nat.le_of_ble_eq_true rfl⟩ (Nat.le_of_ble_eq_true rfl) (hG.lt0 83 (by decide)) (hG.o0 83 rfl) (by decide) rfl rfl ⟨Nat.le_refl _, Nat.le_refl _⟩ dX12_readNext_283 rfl ?_
                      refine ya_iast (hG.s0 89 rfl) (hG.lt0 89 (by decide)) dX12_readNext_286 h (fun d286 h => ?_)
                      cases h
                      exact ya_vret rfl rfl rfl rfl rfl (Nat.le_refl _) dX12_readNext_287
                    · replace h := ya_itef h c
                      refine ya_aload_n 0 rfl dX12_readNext_263 ?_
                      obtain ⟨d264, e264, h⟩ := ya_ob h
                      refine ya_callVv (S := []) (c_X12_readBuyer hG e264) m_X12_readBuyer ⟨rfl, rfl⟩ ml_X12_235 rfl ⟨Nat.le_of_ble_eq_true rfl, Nat.le_of_ble_eq_true rfl⟩ (Nat.le_of_ble_eq_true rfl) (hG.lt0 83 (by decide)) (hG.o0 83 rfl) (by decide) rfl rfl ⟨Nat.le_refl _, Nat.le_refl _⟩ dX12_readNext_264 rfl ?_
                      refine ya_goto 287 (by decide) dX12_readNext_267 ?_
                      cases h
                      exact ya_vret rfl rfl rfl rfl rfl (Nat.le_refl _) dX12_readNext_287
                  · replace h := ya_itef h c
                    refine ya_aload_n 0 rfl dX12_readNext_238 ?_
                    refine ya_sipush 326 (by decide) dX12_readNext_239 ?_
                    refine ya_aload_n 0 rfl dX12_readNext_242 ?_
                    refine ya_getR fo_X12_31 (hG.o0 83 rfl) (hG.lt0 83 (by decide)) (hG.l0 87 rfl) dX12_readNext_243 ?_
                    refine ya_iconst 2 (by decide) dX12_readNext_246 ?_
                    refine ya_iald (hG.s0 89 rfl) (hG.lt0 89 (by decide)) dX12_readNext_247 h (fun x247 h => ?_)
                    obtain ⟨d248, e248, h⟩ := ya_ob h
                    refine ya_callVv (S := []) (c_X12_readOn hG e248) m_X12_readOn ⟨rfl, rfl⟩ ml_X12_228 rfl ⟨Nat.le_of_ble_eq_true rfl, Nat.le_of_ble_eq_true rfl⟩ (Nat.le_of_ble_eq_true rfl) (hG.lt0 83 (by decide)) (hG.o0 83 rfl) (by decide) rfl rfl ⟨Nat.le_refl _, Nat.le_refl _⟩ dX12_readNext_248 rfl ?_
                    refine ya_goto 287 (by decide) dX12_readNext_251 ?_
                    cases h
                    exact ya_vret rfl rfl rfl rfl rfl (Nat.le_refl _) dX12_readNext_287
                · replace h := ya_itef h c
                  refine ya_aload_n 0 rfl dX12_readNext_222 ?_
                  obtain ⟨d223, e223, h⟩ := ya_ob h
                  refine ya_callVv (S := []) (c_X12_readSeller hG e223) m_X12_readSeller ⟨rfl, rfl⟩ ml_X12_232 rfl ⟨Nat.le_of_ble_eq_true rfl, Nat.le_of_ble_eq_true rfl⟩ (Nat.le_of_ble_eq_true rfl) (hG.lt0 83 (by decide)) (hG.o0 83 rfl) (by decide) rfl rfl ⟨Nat.le_refl _, Nat.le_refl _⟩ dX12_readNext_223 rfl ?_
                  refine ya_goto 287 (by decide) dX12_readNext_226 ?_
                  cases h
                  exact ya_vret rfl rfl rfl rfl rfl (Nat.le_refl _) dX12_readNext_287
              · replace h := ya_itef h c
                refine ya_aload_n 0 rfl dX12_readNext_198 ?_
                refine ya_bipush 111 (by decide) dX12_readNext_199 ?_
                refine ya_aload_n 0 rfl dX12_readNext_201 ?_
                refine ya_getR fo_X12_31 (hG.o0 83 rfl) (hG.lt0 83 (by decide)) (hG.l0 87 rfl) dX12_readNext_202 ?_
                refine ya_iconst 1 (by decide) dX12_readNext_205 ?_
                refine ya_iald (hG.s0 89 rfl) (hG.lt0 89 (by decide)) dX12_readNext_206 h (fun x206 h => ?_)
                obtain ⟨d207, e207, h⟩ := ya_ob h
                refine ya_callVv (S := []) (c_X12_readOn hG e207) m_X12_readOn ⟨rfl, rfl⟩ ml_X12_228 rfl ⟨Nat.le_of_ble_eq_true rfl, Nat.le_of_ble_eq_true rfl⟩ (Nat.le_of_ble_eq_true rfl) (hG.lt0 83 (by decide)) (hG.o0 83 rfl) (by decide) rfl rfl ⟨Nat.le_refl _, Nat.le_refl _⟩ dX12_readNext_207 rfl ?_
                refine ya_goto 287 (by decide) dX12_readNext_210 ?_
                cases h
                exact ya_vret rfl rfl rfl rfl rfl (Nat.le_refl _) dX12_readNext_287
            · replace h := ya_itef h c
              refine ya_aload_n 0 rfl dX12_readNext_174 ?_
              refine ya_bipush 11 (by decide) dX12_readNext_175 ?_
              refine ya_aload_n 0 rfl dX12_readNext_177 ?_
              refine ya_getR fo_X12_31 (hG.o0 83 rfl) (hG.lt0 83 (by decide)) (hG.l0 87 rfl) dX12_readNext_178 ?_
              refine ya_iconst 1 (by decide) dX12_readNext_181 ?_
              refine ya_iald (hG.s0 89 rfl) (hG.lt0 89 (by decide)) dX12_readNext_182 h (fun x182 h => ?_)
              obtain ⟨d183, e183, h⟩ := ya_ob h
              refine ya_callVv (S := []) (c_X12_readOn hG e183) m_X12_readOn ⟨rfl, rfl⟩ ml_X12_228 rfl ⟨Nat.le_of_ble_eq_true rfl, Nat.le_of_ble_eq_true rfl⟩ (Nat.le_of_ble_eq_true rfl) (hG.lt0 83 (by decide)) (hG.o0 83 rfl) (by decide) rfl rfl ⟨Nat.le_refl _, Nat.le_refl _⟩ dX12_readNext_183 rfl ?_
              refine ya_goto 287 (by decide) dX12_readNext_186 ?_
              cases h
              exact ya_vret rfl rfl rfl rfl rfl (Nat.le_refl _) dX12_readNext_287
          · replace h := ya_itef h c
            refine ya_aload_n 0 rfl dX12_readNext_158 ?_
            obtain ⟨d159, e159, h⟩ := ya_ob h
            refine ya_callVv (S := []) (c_X12_readThing hG e159) m_X12_readThing ⟨rfl, rfl⟩ ml_X12_225 rfl ⟨Nat.le_of_ble_eq_true rfl, Nat.le_of_ble_eq_true rfl⟩ (Nat.le_of_ble_eq_true rfl) (hG.lt0 83 (by decide)) (hG.o0 83 rfl) (by decide) rfl rfl ⟨Nat.le_refl _, Nat.le_refl _⟩ dX12_readNext_159 rfl ?_
            refine ya_goto 287 (by decide) dX12_readNext_162 ?_
            cases h
            exact ya_vret rfl rfl rfl rfl rfl (Nat.le_refl _) dX12_readNext_287
        · replace h := ya_itet h c
          cases h
          exact ya_vret rfl rfl rfl rfl rfl (Nat.le_refl _) dX12_readNext_148
      · refine ya_j0_s h (ya_E X Y_X12_readNext (ya_M X (none, G, rr) 0 0) 136 [(0, .ref (X.2.1 + 83))] [] G d_78 0 0) (fun h => ?_) (fun k136 hk136 h => ?_)
        · refine ya_aload_n 0 rfl dX12_readNext_136 ?_
          refine ya_iconst 3 (by decide) dX12_readNext_137 ?_
          obtain ⟨d138, e138, h⟩ := ya_ob h
          refine ya_callVv (S := []) (c_X12_errs hG e138) m_X12_errs ⟨rfl, rfl⟩ ml_X12_174 rfl ⟨Nat.le_of_ble_eq_true rfl, Nat.le_of_ble_eq_true rfl⟩ (Nat.le_of_ble_eq_true rfl) (hG.lt0 83 (by decide)) (hG.o0 83 rfl) (by decide) rfl rfl ⟨Nat.le_refl _, Nat.le_refl _⟩ dX12_readNext_138 rfl ?_
          exact hk141 _ h
        · refine ya_j0_s h (ya_E X Y_X12_readNext (ya_M X (none, G, rr) 0 0) 97 [(0, .ref (X.2.1 + 83))] [] G d_78 0 0) (fun h => ?_) (fun k97 hk97 h => ?_)
          · refine ya_aload_n 0 rfl dX12_readNext_97 ?_
            refine ya_ldcS 13 rfl dX12_readNext_98 ?_
            obtain ⟨x100, e100, h⟩ := ya_ob h
            refine ya_callVi (S := []) (c_X12_is hG e100) m_X12_is ⟨rfl, rfl⟩ ml_X12_164 rfl ⟨Nat.le_of_ble_eq_true rfl, Nat.le_of_ble_eq_true rfl⟩ (Nat.le_of_ble_eq_true rfl) (hG.lt0 83 (by decide)) (hG.o0 83 rfl) (by decide) rfl rfl ⟨Nat.le_refl _, Nat.le_refl _⟩ dX12_readNext_100 rfl ?_
            refine ya_j0_s h (ya_E X Y_X12_readNext (ya_M X (none, G, rr) 0 0) 116 [(0, .ref (X.2.1 + 83))] [] G d_78 0 0) (fun h => ?_) (fun k116 hk116 h => ?_)
            · refine ya_aload_n 0 rfl dX12_readNext_116 ?_
              refine ya_ldcS 15 rfl dX12_readNext_117 ?_
              obtain ⟨x119, e119, h⟩ := ya_ob h
              refine ya_callVi (S := []) (c_X12_is hG e119) m_X12_is ⟨rfl, rfl⟩ ml_X12_164 rfl ⟨Nat.le_of_ble_eq_true rfl, Nat.le_of_ble_eq_true rfl⟩ (Nat.le_of_ble_eq_true rfl) (hG.lt0 83 (by decide)) (hG.o0 83 rfl) (by decide) rfl rfl ⟨Nat.le_refl _, Nat.le_refl _⟩ dX12_readNext_119 rfl ?_
              refine ya_ifeq 141 (by decide) dX12_readNext_122 (fun c => ?_) (fun c => ?_)
              · replace h := ya_itet h c
                exact hk141 _ h
              · replace h := ya_itef h c
                refine ya_aload_n 0 rfl dX12_readNext_125 ?_
                refine ya_getR fo_X12_31 (hG.o0 83 rfl) (hG.lt0 83 (by decide)) (hG.l0 87 rfl) dX12_readNext_126 ?_
                refine ya_iconst 3 (by decide) dX12_readNext_129 ?_
                refine ya_iald (hG.s0 89 rfl) (hG.lt0 89 (by decide)) dX12_readNext_130 h (fun x130 h => ?_)
                refine ya_bipush 7 (by decide) dX12_readNext_131 ?_
                refine ya_icmp_ne 141 (by decide) dX12_readNext_133 (fun c => ?_) (fun c => ?_)
                · replace h := ya_itef h c
                  exact hk141 _ h
                · replace h := ya_itet h c
                  exact hk136  h
            · refine ya_ifeq 116 (by decide) dX12_readNext_103 (fun c => ?_) (fun c => ?_)
              · replace h := ya_itet h c
                exact hk116  h
              · replace h := ya_itef h c
                refine ya_aload_n 0 rfl dX12_readNext_106 ?_
                refine ya_getR fo_X12_31 (hG.o0 83 rfl) (hG.lt0 83 (by decide)) (hG.l0 87 rfl) dX12_readNext_107 ?_
                refine ya_iconst 2 (by decide) dX12_readNext_110 ?_
                refine ya_iald (hG.s0 89 rfl) (hG.lt0 89 (by decide)) dX12_readNext_111 h (fun x111 h => ?_)
                refine ya_iconst 5 (by decide) dX12_readNext_112 ?_
                refine ya_icmp_eq 136 (by decide) dX12_readNext_113 (fun c => ?_) (fun c => ?_)
                · replace h := ya_itet h c
                  exact hk136  h
                · replace h := ya_itef h c
                  exact hk116  h
          · refine ya_ifeq 97 (by decide) dX12_readNext_84 (fun c => ?_) (fun c => ?_)
            · replace h := ya_itet h c
              exact hk97  h
            · replace h := ya_itef h c
              refine ya_aload_n 0 rfl dX12_readNext_87 ?_
              refine ya_getR fo_X12_31 (hG.o0 83 rfl) (hG.lt0 83 (by decide)) (hG.l0 87 rfl) dX12_readNext_88 ?_
              refine ya_iconst 1 (by decide) dX12_readNext_91 ?_
              refine ya_iald (hG.s0 89 rfl) (hG.lt0 89 (by decide)) dX12_readNext_92 h (fun x92 h => ?_)
              refine ya_iconst 5 (by decide) dX12_readNext_93 ?_
              refine ya_icmp_eq 136 (by decide) dX12_readNext_94 (fun c => ?_) (fun c => ?_)
              · replace h := ya_itet h c
                exact hk136  h
              · replace h := ya_itef h c
                exact hk97  h
    · refine ya_ifne 78 (by decide) dX12_readNext_70 (fun c => ?_) (fun c => ?_)
      · replace h := ya_itef h c
        refine ya_sub [(0, .ref (X.2.1 + 83))] [1] rfl ?_
        exact hk78 _ h
      · replace h := ya_itet h c
        refine ya_aload_n 1 rfl dX12_readNext_73 ?_
        refine ya_iconst 1 (by decide) dX12_readNext_74 ?_
        obtain ⟨d75, e75, h⟩ := ya_ob h
        refine ya_callVv (S := []) (c_X12_errs hG e75) m_X12_errs ⟨rfl, rfl⟩ ml_X12_174 rfl ⟨Nat.le_of_ble_eq_true rfl, Nat.le_of_ble_eq_true rfl⟩ (Nat.le_of_ble_eq_true rfl) (hG.lt0 83 (by decide)) (hG.o0 83 rfl) (by decide) rfl rfl ⟨Nat.le_refl _, Nat.le_refl _⟩ dX12_readNext_75 rfl ?_
        refine ya_sub [(0, .ref (X.2.1 + 83))] [1] rfl ?_
        exact hk78 _ h
  · refine ya_j0_s h (ya_E X Y_X12_readNext (ya_M X (none, G, rr) 0 0) 63 [(0, .ref (X.2.1 + 83))] [] G d 0 0) (fun h => ?_) (fun k63 hk63 h => ?_)
    · refine ya_iconst 1 (by decide) dX12_readNext_63 ?_
      refine ya_goto 68 (by decide) dX12_readNext_64 ?_
      exact hk68 _ h
    · refine ya_ifne 63 (by decide) dX12_readNext_6 (fun c => ?_) (fun c => ?_)
      · replace h := ya_itef h c
        exact hk63  h
      · replace h := ya_itet h c
        refine ya_aload_n 0 rfl dX12_readNext_9 ?_
        refine ya_ldcS 11 rfl dX12_readNext_10 ?_
        obtain ⟨x12, e12, h⟩ := ya_ob h
        refine ya_callVi (S := []) (c_X12_is hG e12) m_X12_is ⟨rfl, rfl⟩ ml_X12_164 rfl ⟨Nat.le_of_ble_eq_true rfl, Nat.le_of_ble_eq_true rfl⟩ (Nat.le_of_ble_eq_true rfl) (hG.lt0 83 (by decide)) (hG.o0 83 rfl) (by decide) rfl rfl ⟨Nat.le_refl _, Nat.le_refl _⟩ dX12_readNext_12 rfl ?_
        refine ya_ifne 63 (by decide) dX12_readNext_15 (fun c => ?_) (fun c => ?_)
        · replace h := ya_itef h c
          exact hk63  h
        · replace h := ya_itet h c
          refine ya_aload_n 0 rfl dX12_readNext_18 ?_
          refine ya_ldcS 12 rfl dX12_readNext_19 ?_
          obtain ⟨x21, e21, h⟩ := ya_ob h
          refine ya_callVi (S := []) (c_X12_is hG e21) m_X12_is ⟨rfl, rfl⟩ ml_X12_164 rfl ⟨Nat.le_of_ble_eq_true rfl, Nat.le_of_ble_eq_true rfl⟩ (Nat.le_of_ble_eq_true rfl) (hG.lt0 83 (by decide)) (hG.o0 83 rfl) (by decide) rfl rfl ⟨Nat.le_refl _, Nat.le_refl _⟩ dX12_readNext_21 rfl ?_
          refine ya_ifne 63 (by decide) dX12_readNext_24 (fun c => ?_) (fun c => ?_)
          · replace h := ya_itef h c
            exact hk63  h
          · replace h := ya_itet h c
            refine ya_aload_n 0 rfl dX12_readNext_27 ?_
            refine ya_ldcS 13 rfl dX12_readNext_28 ?_
            obtain ⟨x30, e30, h⟩ := ya_ob h
            refine ya_callVi (S := []) (c_X12_is hG e30) m_X12_is ⟨rfl, rfl⟩ ml_X12_164 rfl ⟨Nat.le_of_ble_eq_true rfl, Nat.le_of_ble_eq_true rfl⟩ (Nat.le_of_ble_eq_true rfl) (hG.lt0 83 (by decide)) (hG.o0 83 rfl) (by decide) rfl rfl ⟨Nat.le_refl _, Nat.le_refl _⟩ dX12_readNext_30 rfl ?_
            refine ya_ifne 63 (by decide) dX12_readNext_33 (fun c => ?_) (fun c => ?_)
            · replace h := ya_itef h c
              exact hk63  h
            · replace h := ya_itet h c
              refine ya_aload_n 0 rfl dX12_readNext_36 ?_
              refine ya_ldcS 14 rfl dX12_readNext_37 ?_
              obtain ⟨x39, e39, h⟩ := ya_ob h
              refine ya_callVi (S := []) (c_X12_is hG e39) m_X12_is ⟨rfl, rfl⟩ ml_X12_164 rfl ⟨Nat.le_of_ble_eq_true rfl, Nat.le_of_ble_eq_true rfl⟩ (Nat.le_of_ble_eq_true rfl) (hG.lt0 83 (by decide)) (hG.o0 83 rfl) (by decide) rfl rfl ⟨Nat.le_refl _, Nat.le_refl _⟩ dX12_readNext_39 rfl ?_
              refine ya_ifne 63 (by decide) dX12_readNext_42 (fun c => ?_) (fun c => ?_)
              · replace h := ya_itef h c
                exact hk63  h
              · replace h := ya_itet h c
                refine ya_aload_n 0 rfl dX12_readNext_45 ?_
                refine ya_ldcS 15 rfl dX12_readNext_46 ?_
                obtain ⟨x48, e48, h⟩ := ya_ob h
                refine ya_callVi (S := []) (c_X12_is hG e48) m_X12_is ⟨rfl, rfl⟩ ml_X12_164 rfl ⟨Nat.le_of_ble_eq_true rfl, Nat.le_of_ble_eq_true rfl⟩ (Nat.le_of_ble_eq_true rfl) (hG.lt0 83 (by decide)) (hG.o0 83 rfl) (by decide) rfl rfl ⟨Nat.le_refl _, Nat.le_refl _⟩ dX12_readNext_48 rfl ?_
                refine ya_ifne 63 (by decide) dX12_readNext_51 (fun c => ?_) (fun c => ?_)
                · replace h := ya_itef h c
                  exact hk63  h
                · replace h := ya_itet h c
                  refine ya_aload_n 0 rfl dX12_readNext_54 ?_
                  refine ya_ldcS 16 rfl dX12_readNext_55 ?_
                  obtain ⟨x57, e57, h⟩ := ya_ob h
                  refine ya_callVi (S := []) (c_X12_is hG e57) m_X12_is ⟨rfl, rfl⟩ ml_X12_164 rfl ⟨Nat.le_of_ble_eq_true rfl, Nat.le_of_ble_eq_true rfl⟩ (Nat.le_of_ble_eq_true rfl) (hG.lt0 83 (by decide)) (hG.o0 83 rfl) (by decide) rfl rfl ⟨Nat.le_refl _, Nat.le_refl _⟩ dX12_readNext_57 rfl ?_
                  refine ya_ifeq 67 (by decide) dX12_readNext_60 (fun c => ?_) (fun c => ?_)
                  · replace h := ya_itet h c
                    refine ya_iconst 0 (by decide) dX12_readNext_67 ?_
                    exact hk68 _ h
                  · replace h := ya_itef h c
                    exact hk63  h
set_option maxRecDepth 20000 in
theorem c_X12_readLine {X : ya_X} {G : ya_G} {d : ya_D} {rr : ya_D} (hG : ya_Bk ya_sh ya_ln G 0) (h : f_X12_readLine d = some rr) : ya_Ct X yX12_readLine Y_X12_readLine [.ref (X.2.1 + 83)] G d (none, G, rr) := by
  refine ya_ct (by decide +kernel) rfl rfl (Nat.le_of_ble_eq_true rfl) ?_
  unfold f_X12_readLine at h
  show ya_E X Y_X12_readLine (ya_M X (none, G, rr) 0 0) 0 [(0, .ref (X.2.1 + 83))] [] G d 0 0
  refine ya_aload_n 0 rfl dX12_readLine_0 ?_
  refine ya_getR fo_X12_31 (hG.o0 83 rfl) (hG.lt0 83 (by decide)) (hG.l0 87 rfl) dX12_readLine_1 ?_
  refine ya_iconst 4 (by decide) dX12_readLine_4 ?_
  refine ya_iald (hG.s0 89 rfl) (hG.lt0 89 (by decide)) dX12_readLine_5 h (fun x5 h => ?_)
  refine ya_j1_s h (fun d_45 => ya_E X Y_X12_readLine (ya_M X (none, G, rr) 0 0) 45 [(0, .ref (X.2.1 + 83))] [] G d_45 0 0) (fun d_45 h => ?_) (fun k45 hk45 h => ?_)
  · refine ya_aload_n 0 rfl dX12_readLine_45 ?_
    obtain ⟨x46, e46, h⟩ := ya_ob h
    refine ya_callVi (S := []) (c_X12_good hG e46) m_X12_good ⟨rfl, rfl⟩ ml_X12_150 rfl ⟨Nat.le_of_ble_eq_true rfl, Nat.le_of_ble_eq_true rfl⟩ (Nat.le_of_ble_eq_true rfl) (hG.lt0 83 (by decide)) (hG.o0 83 rfl) (by decide) rfl rfl ⟨Nat.le_refl _, Nat.le_refl _⟩ dX12_readLine_46 rfl ?_
    refine ya_j1_s h (fun d_65 => ya_E X Y_X12_readLine (ya_M X (none, G, rr) 0 0) 65 [(0, .ref (X.2.1 + 83))] [] G d_65 0 0) (fun d_65 h => ?_) (fun k65 hk65 h => ?_)
    · refine ya_aload_n 0 rfl dX12_readLine_65 ?_
      obtain ⟨x66, e66, h⟩ := ya_ob h
      refine ya_callVi (S := []) (c_X12_good hG e66) m_X12_good ⟨rfl, rfl⟩ ml_X12_150 rfl ⟨Nat.le_of_ble_eq_true rfl, Nat.le_of_ble_eq_true rfl⟩ (Nat.le_of_ble_eq_true rfl) (hG.lt0 83 (by decide)) (hG.o0 83 rfl) (by decide) rfl rfl ⟨Nat.le_refl _, Nat.le_refl _⟩ dX12_readLine_66 rfl ?_
      refine ya_j1_s h (fun d_76 => ya_E X Y_X12_readLine (ya_M X (none, G, rr) 0 0) 76 [(0, .ref (X.2.1 + 83))] [] G d_76 0 0) (fun d_76 h => ?_) (fun k76 hk76 h => ?_)
      · refine ya_aload_n 0 rfl dX12_readLine_76 ?_
        refine ya_getR fo_X12_31 (hG.o0 83 rfl) (hG.lt0 83 (by decide)) (hG.l0 87 rfl) dX12_readLine_77 ?_
        refine ya_iconst 4 (by decide) dX12_readLine_80 ?_
        refine ya_dup2 rfl rfl dX12_readLine_81 ?_
        refine ya_iald (hG.s0 89 rfl) (hG.lt0 89 (by decide)) dX12_readLine_82 h (fun x82 h => ?_)
        refine ya_iconst 1 (by decide) dX12_readLine_83 ?_
        refine ya_iadd dX12_readLine_84 ?_
        refine ya_iast (hG.s0 89 rfl) (hG.lt0 89 (by decide)) dX12_readLine_85 h (fun d85 h => ?_)
        cases h
        exact ya_vret rfl rfl rfl rfl rfl (Nat.le_refl _) dX12_readLine_86
      · refine ya_ifeq 76 (by decide) dX12_readLine_69 (fun c => ?_) (fun c => ?_)
        · replace h := ya_itet h c
          exact hk76 _ h
        · replace h := ya_itef h c
          refine ya_aload_n 0 rfl dX12_readLine_72 ?_
          obtain ⟨d73, e73, h⟩ := ya_ob h
          refine ya_callVv (S := []) (c_X12_advance hG e73) m_X12_advance ⟨rfl, rfl⟩ ml_X12_168 rfl ⟨Nat.le_of_ble_eq_true rfl, Nat.le_of_ble_eq_true rfl⟩ (Nat.le_of_ble_eq_true rfl) (hG.lt0 83 (by decide)) (hG.o0 83 rfl) (by decide) rfl rfl ⟨Nat.le_refl _, Nat.le_refl _⟩ dX12_readLine_73 rfl ?_
          exact hk76 _ h
    · refine ya_ifeq 65 (by decide) dX12_readLine_49 (fun c => ?_) (fun c => ?_)
      · replace h := ya_itet h c
        exact hk65 _ h
      · replace h := ya_itef h c
        refine ya_aload_n 0 rfl dX12_readLine_52 ?_
        refine ya_getI fo_X12_127 (hG.o0 83 rfl) (hG.lt0 83 (by decide)) dX12_readLine_53 ?_
        refine ya_iconst 3 (by decide) dX12_readLine_56 ?_
        refine ya_icmp_eq 65 (by decide) dX12_readLine_57 (fun c => ?_) (fun c => ?_)
        · replace h := ya_itet h c
          exact hk65 _ h
        · replace h := ya_itef h c
          refine ya_aload_n 0 rfl dX12_readLine_60 ?_
          refine ya_iconst 1 (by decide) dX12_readLine_61 ?_
          obtain ⟨d62, e62, h⟩ := ya_ob h
          refine ya_callVv (S := []) (c_X12_errs hG e62) m_X12_errs ⟨rfl, rfl⟩ ml_X12_174 rfl ⟨Nat.le_of_ble_eq_true rfl, Nat.le_of_ble_eq_true rfl⟩ (Nat.le_of_ble_eq_true rfl) (hG.lt0 83 (by decide)) (hG.o0 83 rfl) (by decide) rfl rfl ⟨Nat.le_refl _, Nat.le_refl _⟩ dX12_readLine_62 rfl ?_
          exact hk65 _ h
  · refine ya_ifne 41 (by decide) dX12_readLine_6 (fun c => ?_) (fun c => ?_)
    · replace h := ya_itef h c
      refine ya_aload_n 0 rfl dX12_readLine_41 ?_
      obtain ⟨d42, e42, h⟩ := ya_ob h
      refine ya_callVv (S := []) (c_X12_readNext hG e42) m_X12_readNext ⟨rfl, rfl⟩ ml_X12_242 rfl ⟨Nat.le_of_ble_eq_true rfl, Nat.le_of_ble_eq_true rfl⟩ (Nat.le_of_ble_eq_true rfl) (hG.lt0 83 (by decide)) (hG.o0 83 rfl) (by decide) rfl rfl ⟨Nat.le_refl _, Nat.le_refl _⟩ dX12_readLine_42 rfl ?_
      exact hk45 _ h
    · replace h := ya_itet h c
      refine ya_aload_n 0 rfl dX12_readLine_9 ?_
      refine ya_ldcS 8 rfl dX12_readLine_10 ?_
      obtain ⟨d12, e12, h⟩ := ya_ob h
      refine ya_callVv (S := []) (c_X12_needs hG e12) m_X12_needs ⟨rfl, rfl⟩ ml_X12_178 rfl ⟨Nat.le_of_ble_eq_true rfl, Nat.le_of_ble_eq_true rfl⟩ (Nat.le_of_ble_eq_true rfl) (hG.lt0 83 (by decide)) (hG.o0 83 rfl) (by decide) rfl rfl ⟨Nat.le_refl _, Nat.le_refl _⟩ dX12_readLine_12 rfl ?_
      refine ya_aload_n 0 rfl dX12_readLine_15 ?_
      refine ya_getR fo_X12_31 (hG.o0 83 rfl) (hG.lt0 83 (by decide)) (hG.l0 87 rfl) dX12_readLine_16 ?_
      refine ya_iconst 0 (by decide) dX12_readLine_19 ?_
      refine ya_aload_n 0 rfl dX12_readLine_20 ?_
      refine ya_ldcS 9 rfl dX12_readLine_21 ?_
      refine ya_iconst 4 (by decide) dX12_readLine_23 ?_
      refine ya_bipush 20 (by decide) dX12_readLine_24 ?_
      obtain ⟨x26, d26, e26, h⟩ := ya_ob2 h
      refine ya_callVi (S := [.int 0, .ref (X.2.1 + 89)]) (c_X12_told hG e26) m_X12_told ⟨rfl, rfl⟩ ml_X12_187 rfl ⟨Nat.le_of_ble_eq_true rfl, Nat.le_of_ble_eq_true rfl⟩ (Nat.le_of_ble_eq_true rfl) (hG.lt0 83 (by decide)) (hG.o0 83 rfl) (by decide) rfl rfl ⟨Nat.le_refl _, Nat.le_refl _⟩ dX12_readLine_26 rfl ?_
      refine ya_iast (hG.s0 89 rfl) (hG.lt0 89 (by decide)) dX12_readLine_29 h (fun d29 h => ?_)
      refine ya_aload_n 0 rfl dX12_readLine_30 ?_
      refine ya_getR fo_X12_31 (hG.o0 83 rfl) (hG.lt0 83 (by decide)) (hG.l0 87 rfl) dX12_readLine_31 ?_
      refine ya_iconst 5 (by decide) dX12_readLine_34 ?_
      refine ya_bipush 99 (by decide) dX12_readLine_35 ?_
      refine ya_iast (hG.s0 89 rfl) (hG.lt0 89 (by decide)) dX12_readLine_37 h (fun d37 h => ?_)
      refine ya_goto 45 (by decide) dX12_readLine_38 ?_
      exact hk45 _ h
set_option maxRecDepth 20000 in
theorem w_X12_market_L30 {X : ya_X} {G : ya_G} {rr : (Int32 × ya_D)} {e50 : ya_D → Option (Int32 × ya_D)} (hG : ya_Bk ya_sh ya_ln G 0) (he50 : ∀ (d : ya_D), e50 d = some rr → ya_E X Y_X12_market (ya_M X (some (.int rr.1), G, rr.2) 0 0) 50 [(0, .ref (X.2.1 + 83))] [] G d 0 0) : ∀ (n : Nat) (v1 : Int32) (d : ya_D), f_X12_market_L30 e50 n v1 d = some rr → ya_E X Y_X12_market (ya_M X (some (.int rr.1), G, rr.2) 0 0) 30 [(0, .ref (X.2.1 + 83)), (1, .int v1)] [] G d 0 0 := by
  intro n
  induction n with
  | zero => intro v1 d h; cases h
  | succ n ih =>
    intro v1 d h
    rw [f_X12_market_L30] at h
    refine ya_iload_n 1 rfl dX12_market_30 ?_
    refine ya_sipush 468 (by decide) dX12_market_31 ?_
    refine ya_icmp_ge 50 (by decide) dX12_market_34 (fun c => ?_) (fun c => ?_)
    · replace h := ya_itet h c
      refine ya_sub [(0, .ref (X.2.1 + 83))] [0] rfl ?_
      exact he50 _ h
    · replace h := ya_itef h c
      refine ya_aload_n 0 rfl dX12_market_37 ?_
      refine ya_getR fo_X12_31 (hG.o0 83 rfl) (hG.lt0 83 (by decide)) (hG.l0 87 rfl) dX12_market_38 ?_
      refine ya_iload_n 1 rfl dX12_market_41 ?_
      refine ya_iconst 0 (by decide) dX12_market_42 ?_
      refine ya_iast (hG.s0 89 rfl) (hG.lt0 89 (by decide)) dX12_market_43 h (fun d43 h => ?_)
      refine ya_iinc (v1 + 1) rfl 1 rfl [(1, .int (v1 + 1)), (0, .ref (X.2.1 + 83))] (by decide) rfl dX12_market_44 ?_
      refine ya_goto 30 (by decide) dX12_market_47 ?_
      refine ya_sub [(0, .ref (X.2.1 + 83)), (1, .int (v1 + 1))] [1, 0] rfl ?_
      exact ih _ _ h
set_option maxRecDepth 20000 in
theorem w_X12_market_L54 {X : ya_X} {G : ya_G} {rr : (Int32 × ya_D)} {e75 : ya_D → Option (Int32 × ya_D)} (hG : ya_Bk ya_sh ya_ln G 0) (he75 : ∀ (d : ya_D), e75 d = some rr → ya_E X Y_X12_market (ya_M X (some (.int rr.1), G, rr.2) 0 0) 75 [(0, .ref (X.2.1 + 83))] [] G d 0 0) : ∀ (n : Nat) (d : ya_D), f_X12_market_L54 e75 n d = some rr → ya_E X Y_X12_market (ya_M X (some (.int rr.1), G, rr.2) 0 0) 54 [(0, .ref (X.2.1 + 83))] [] G d 0 0 := by
  intro n
  induction n with
  | zero => intro d h; cases h
  | succ n ih =>
    intro d h
    rw [f_X12_market_L54] at h
    refine ya_aload_n 0 rfl dX12_market_54 ?_
    obtain ⟨x55, e55, h⟩ := ya_ob h
    refine ya_callVi (S := []) (c_X12_good hG e55) m_X12_good ⟨rfl, rfl⟩ ml_X12_150 rfl ⟨Nat.le_of_ble_eq_true rfl, Nat.le_of_ble_eq_true rfl⟩ (Nat.le_of_ble_eq_true rfl) (hG.lt0 83 (by decide)) (hG.o0 83 rfl) (by decide) rfl rfl ⟨Nat.le_refl _, Nat.le_refl _⟩ dX12_market_55 rfl ?_
    refine ya_ifeq 75 (by decide) dX12_market_58 (fun c => ?_) (fun c => ?_)
    · replace h := ya_itet h c
      exact he75 _ h
    · replace h := ya_itef h c
      refine ya_aload_n 0 rfl dX12_market_61 ?_
      refine ya_getI fo_X12_127 (hG.o0 83 rfl) (hG.lt0 83 (by decide)) dX12_market_62 ?_
      refine ya_ifeq 75 (by decide) dX12_market_65 (fun c => ?_) (fun c => ?_)
      · replace h := ya_itet h c
        exact he75 _ h
      · replace h := ya_itef h c
        refine ya_aload_n 0 rfl dX12_market_68 ?_
        obtain ⟨d69, e69, h⟩ := ya_ob h
        refine ya_callVv (S := []) (c_X12_readLine hG e69) m_X12_readLine ⟨rfl, rfl⟩ ml_X12_245 rfl ⟨Nat.le_of_ble_eq_true rfl, Nat.le_of_ble_eq_true rfl⟩ (Nat.le_of_ble_eq_true rfl) (hG.lt0 83 (by decide)) (hG.o0 83 rfl) (by decide) rfl rfl ⟨Nat.le_refl _, Nat.le_refl _⟩ dX12_market_69 rfl ?_
        refine ya_goto 54 (by decide) dX12_market_72 ?_
        exact ih _ h
set_option maxRecDepth 20000 in
theorem w_X12_market_L87 {X : ya_X} {G : ya_G} {rr : (Int32 × ya_D)} (hG : ya_Bk ya_sh ya_ln G 0) : ∀ (n : Nat) (v1 : Int32) (d : ya_D), f_X12_market_L87  n v1 d = some rr → ya_E X Y_X12_market (ya_M X (some (.int rr.1), G, rr.2) 0 0) 87 [(0, .ref (X.2.1 + 83)), (1, .int v1)] [] G d 0 0 := by
  intro n
  induction n with
  | zero => intro v1 d h; cases h
  | succ n ih =>
    intro v1 d h
    rw [f_X12_market_L87] at h
    refine ya_iload_n 1 rfl dX12_market_87 ?_
    refine ya_sipush 468 (by decide) dX12_market_88 ?_
    refine ya_icmp_ge 112 (by decide) dX12_market_91 (fun c => ?_) (fun c => ?_)
    · replace h := ya_itet h c
      refine ya_aload_n 0 rfl dX12_market_112 ?_
      refine ya_getR fo_X12_9 (hG.o0 83 rfl) (hG.lt0 83 (by decide)) (hG.l0 82 rfl) dX12_market_113 ?_
      refine ya_iconst 4 (by decide) dX12_market_116 ?_
      refine ya_iald (hG.s0 84 rfl) (hG.lt0 84 (by decide)) dX12_market_117 h (fun x117 h => ?_)
      cases h
      exact ya_iret rfl rfl rfl rfl rfl (Nat.le_refl _) dX12_market_118
    · replace h := ya_itef h c
      refine ya_aload_n 0 rfl dX12_market_94 ?_
      refine ya_getR fo_X12_9 (hG.o0 83 rfl) (hG.lt0 83 (by decide)) (hG.l0 82 rfl) dX12_market_95 ?_
      refine ya_iload_n 1 rfl dX12_market_98 ?_
      refine ya_aload_n 0 rfl dX12_market_99 ?_
      refine ya_getR fo_X12_31 (hG.o0 83 rfl) (hG.lt0 83 (by decide)) (hG.l0 87 rfl) dX12_market_100 ?_
      refine ya_iload_n 1 rfl dX12_market_103 ?_
      refine ya_iald (hG.s0 89 rfl) (hG.lt0 89 (by decide)) dX12_market_104 h (fun x104 h => ?_)
      refine ya_iast (hG.s0 84 rfl) (hG.lt0 84 (by decide)) dX12_market_105 h (fun d105 h => ?_)
      refine ya_iinc (v1 + 1) rfl 1 rfl [(1, .int (v1 + 1)), (0, .ref (X.2.1 + 83))] (by decide) rfl dX12_market_106 ?_
      refine ya_goto 87 (by decide) dX12_market_109 ?_
      refine ya_sub [(0, .ref (X.2.1 + 83)), (1, .int (v1 + 1))] [1, 0] rfl ?_
      exact ih _ _ h
set_option maxRecDepth 20000 in
theorem c_X12_market {X : ya_X} {G : ya_G} {d : ya_D} {rr : (Int32 × ya_D)} (hG : ya_Bk ya_sh ya_ln G 0) (h : f_X12_market d = some rr) : ya_Ct X yX12_market Y_X12_market [.ref (X.2.1 + 83)] G d (some (.int rr.1), G, rr.2) := by
  refine ya_ct (by decide +kernel) rfl rfl (Nat.le_of_ble_eq_true rfl) ?_
  unfold f_X12_market at h
  show ya_E X Y_X12_market (ya_M X (some (.int rr.1), G, rr.2) 0 0) 0 [(0, .ref (X.2.1 + 83))] [] G d 0 0
  refine ya_aload_n 0 rfl dX12_market_0 ?_
  refine ya_aload_n 0 rfl dX12_market_1 ?_
  refine ya_getI fo_X12_112 (hG.o0 83 rfl) (hG.lt0 83 (by decide)) dX12_market_2 ?_
  refine ya_putIb fo_X12_115 (hG.o0 83 rfl) (hG.lt0 83 (by decide)) .int pf_X12_7 rfl rfl dX12_market_5 h (fun d5 h => ?_)
  refine ya_aload_n 0 rfl dX12_market_8 ?_
  refine ya_iconst 0 (by decide) dX12_market_9 ?_
  refine ya_putIb fo_X12_112 (hG.o0 83 rfl) (hG.lt0 83 (by decide)) .int pf_X12_5 rfl rfl dX12_market_10 h (fun d10 h => ?_)
  refine ya_aload_n 0 rfl dX12_market_13 ?_
  refine ya_iconst 0 (by decide) dX12_market_14 ?_
  refine ya_putIb fo_X12_118 (hG.o0 83 rfl) (hG.lt0 83 (by decide)) .int pf_X12_8 rfl rfl dX12_market_15 h (fun d15 h => ?_)
  refine ya_aload_n 0 rfl dX12_market_18 ?_
  refine ya_iconst 0 (by decide) dX12_market_19 ?_
  refine ya_putIb fo_X12_147 (hG.o0 83 rfl) (hG.lt0 83 (by decide)) .int pf_X12_12 rfl rfl dX12_market_20 h (fun d20 h => ?_)
  refine ya_aload_n 0 rfl dX12_market_23 ?_
  refine ya_iconst (-1) (by decide) dX12_market_24 ?_
  refine ya_putIb fo_X12_27 (hG.o0 83 rfl) (hG.lt0 83 (by decide)) .int pf_X12_13 rfl rfl dX12_market_25 h (fun d25 h => ?_)
  refine ya_iconst 0 (by decide) dX12_market_28 ?_
  refine ya_istore_n [(1, .int 0), (0, .ref (X.2.1 + 83))] (by decide) rfl dX12_market_29 ?_
  refine ya_sub [(0, .ref (X.2.1 + 83)), (1, .int 0)] [1, 0] rfl ?_
  refine w_X12_market_L30 hG (fun d_50 h => ?_) ya_F _ _ h
  refine ya_aload_n 0 rfl dX12_market_50 ?_
  obtain ⟨d51, e51, h⟩ := ya_ob h
  refine ya_callVv (S := []) (c_X12_advance hG e51) m_X12_advance ⟨rfl, rfl⟩ ml_X12_168 rfl ⟨Nat.le_of_ble_eq_true rfl, Nat.le_of_ble_eq_true rfl⟩ (Nat.le_of_ble_eq_true rfl) (hG.lt0 83 (by decide)) (hG.o0 83 rfl) (by decide) rfl rfl ⟨Nat.le_refl _, Nat.le_refl _⟩ dX12_market_51 rfl ?_
  refine w_X12_market_L54 hG (fun d_75 h => ?_) ya_F _ h
  refine ya_aload_n 0 rfl dX12_market_75 ?_
  obtain ⟨x76, e76, h⟩ := ya_ob h
  refine ya_callVi (S := []) (c_X12_good hG e76) m_X12_good ⟨rfl, rfl⟩ ml_X12_150 rfl ⟨Nat.le_of_ble_eq_true rfl, Nat.le_of_ble_eq_true rfl⟩ (Nat.le_of_ble_eq_true rfl) (hG.lt0 83 (by decide)) (hG.o0 83 rfl) (by decide) rfl rfl ⟨Nat.le_refl _, Nat.le_refl _⟩ dX12_market_76 rfl ?_
  refine ya_ifne 85 (by decide) dX12_market_79 (fun c => ?_) (fun c => ?_)
  · replace h := ya_itef h c
    refine ya_iconst 0 (by decide) dX12_market_85 ?_
    refine ya_istore_n [(1, .int 0), (0, .ref (X.2.1 + 83))] (by decide) rfl dX12_market_86 ?_
    refine ya_sub [(0, .ref (X.2.1 + 83)), (1, .int 0)] [1, 0] rfl ?_
    refine w_X12_market_L87 hG  ya_F _ _ h
  · replace h := ya_itet h c
    refine ya_bipush (-4) (by decide) dX12_market_82 ?_
    cases h
    exact ya_iret rfl rfl rfl rfl rfl (Nat.le_refl _) dX12_market_84
set_option maxRecDepth 20000 in
theorem c_X12_draw {X : ya_X} {G : ya_G} {v1 : Int32} {d : ya_D} {rr : (Int32 × ya_D)} (hG : ya_Bk ya_sh ya_ln G 0) (h : f_X12_draw v1 d = some rr) : ya_Ct X yX12_draw Y_X12_draw [.ref (X.2.1 + 83), .int v1] G d (some (.int rr.1), G, rr.2) := by
  refine ya_ct (by decide +kernel) rfl rfl (Nat.le_of_ble_eq_true rfl) ?_
  unfold f_X12_draw at h
  show ya_E X Y_X12_draw (ya_M X (some (.int rr.1), G, rr.2) 0 0) 0 [(0, .ref (X.2.1 + 83)), (1, .int v1)] [] G d 0 0
  refine ya_aload_n 0 rfl dX12_draw_0 ?_
  refine ya_ldc2 1103515245 kc_X12_248 dX12_draw_1 ?_
  refine ya_aload_n 0 rfl dX12_draw_4 ?_
  refine ya_getL fo_X12_250 (hG.o0 83 rfl) (hG.lt0 83 (by decide)) dX12_draw_5 ?_
  refine ya_lmul dX12_draw_8 ?_
  refine ya_ldc2 12345 kc_X12_254 dX12_draw_9 ?_
  refine ya_ladd dX12_draw_12 ?_
  refine ya_ldc2 2147483648 kc_X12_256 dX12_draw_13 ?_
  refine ya_lrem (by decide) dX12_draw_16 ?_
  refine ya_putLb fo_X12_250 (hG.o0 83 rfl) (hG.lt0 83 (by decide)) pf_X12_28 dX12_draw_17 h (fun d17 h => ?_)
  refine ya_aload_n 0 rfl dX12_draw_20 ?_
  refine ya_getL fo_X12_250 (hG.o0 83 rfl) (hG.lt0 83 (by decide)) dX12_draw_21 ?_
  refine ya_ldc2 65536 kc_X12_258 dX12_draw_24 ?_
  refine ya_ldiv (by decide) dX12_draw_27 ?_
  refine ya_iload_n 1 rfl dX12_draw_28 ?_
  refine ya_i2l dX12_draw_29 ?_
  refine ya_lremb dX12_draw_30 h (fun x30 h => ?_)
  refine ya_l2i dX12_draw_31 ?_
  cases h
  exact ya_iret rfl rfl rfl rfl rfl (Nat.le_refl _) dX12_draw_32
set_option maxRecDepth 20000 in
theorem c_X12_comesTo {X : ya_X} {G : ya_G} {v1 : Int32} {v2 : Int32} {d : ya_D} {rr : Int32} (hG : ya_Bk ya_sh ya_ln G 0) (h : f_X12_comesTo v1 v2 d = some rr) : ya_Ct X yX12_comesTo Y_X12_comesTo [.ref (X.2.1 + 83), .int v1, .int v2] G d (some (.int rr), G, d) := by
  refine ya_ct (by decide +kernel) rfl rfl (Nat.le_of_ble_eq_true rfl) ?_
  unfold f_X12_comesTo at h
  show ya_E X Y_X12_comesTo (ya_M X (some (.int rr), G, d) 0 0) 0 [(0, .ref (X.2.1 + 83)), (1, .int v1), (2, .int v2)] [] G d 0 0
  refine ya_aload_n 0 rfl dX12_comesTo_0 ?_
  refine ya_getR fo_X12_9 (hG.o0 83 rfl) (hG.lt0 83 (by decide)) (hG.l0 82 rfl) dX12_comesTo_1 ?_
  refine ya_sipush 326 (by decide) dX12_comesTo_4 ?_
  refine ya_iload_n 1 rfl dX12_comesTo_7 ?_
  refine ya_iload_n 2 rfl dX12_comesTo_8 ?_
  obtain ⟨x9, e9, h⟩ := ya_ob h
  refine ya_callSi (S := [.int 326, .ref (X.2.1 + 84)]) (c_X12_at hG e9) m_X12_at ⟨rfl, rfl⟩ ml_X12_105 rfl ⟨Nat.le_of_ble_eq_true rfl, Nat.le_of_ble_eq_true rfl⟩ (Nat.le_of_ble_eq_true rfl) ⟨Nat.le_refl _, Nat.le_refl _⟩ dX12_comesTo_9 rfl ?_
  refine ya_iadd dX12_comesTo_12 ?_
  refine ya_iald (hG.s0 84 rfl) (hG.lt0 84 (by decide)) dX12_comesTo_13 h (fun x13 h => ?_)
  refine ya_iload_n 2 rfl dX12_comesTo_14 ?_
  refine ya_j1_s h (fun t0_28 => ya_E X Y_X12_comesTo (ya_M X (some (.int rr), G, d) 0 0) 28 [] [.int t0_28, .int x13] G d 0 0) (fun t0_28 h => ?_) (fun k28 hk28 h => ?_)
  · refine ya_iadd dX12_comesTo_28 ?_
    cases h
    exact ya_iret rfl rfl rfl rfl rfl (Nat.le_refl _) dX12_comesTo_29
  · refine ya_ifne 27 (by decide) dX12_comesTo_15 (fun c => ?_) (fun c => ?_)
    · replace h := ya_itef h c
      refine ya_iconst 0 (by decide) dX12_comesTo_27 ?_
      refine ya_sub [] [] rfl ?_
      exact hk28 _ h
    · replace h := ya_itet h c
      refine ya_aload_n 0 rfl dX12_comesTo_18 ?_
      refine ya_iload_n 1 rfl dX12_comesTo_19 ?_
      refine ya_iconst 2 (by decide) dX12_comesTo_20 ?_
      obtain ⟨x21, e21, h⟩ := ya_ob h
      refine ya_callVi (S := [.int x13]) (c_X12_seller3 hG e21) m_X12_seller3 ⟨rfl, rfl⟩ ml_X12_109 rfl ⟨Nat.le_of_ble_eq_true rfl, Nat.le_of_ble_eq_true rfl⟩ (Nat.le_of_ble_eq_true rfl) (hG.lt0 83 (by decide)) (hG.o0 83 rfl) (by decide) rfl rfl ⟨Nat.le_refl _, Nat.le_refl _⟩ dX12_comesTo_21 rfl ?_
      refine ya_goto 28 (by decide) dX12_comesTo_24 ?_
      refine ya_sub [] [] rfl ?_
      exact hk28 _ h
set_option maxRecDepth 20000 in
theorem w_X12_stockOf_L4 {X : ya_X} {G : ya_G} {v1 : Int32} {d : ya_D} {rr : Int32} (hG : ya_Bk ya_sh ya_ln G 0) : ∀ (n : Nat) (v2 : Int32) (v3 : Int32), f_X12_stockOf_L4 v1 d n v2 v3 = some rr → ya_E X Y_X12_stockOf (ya_M X (some (.int rr), G, d) 0 0) 4 [(0, .ref (X.2.1 + 83)), (1, .int v1), (2, .int v2), (3, .int v3)] [] G d 0 0 := by
  intro n
  induction n with
  | zero => intro v2 v3 h; cases h
  | succ n ih =>
    intro v2 v3 h
    rw [f_X12_stockOf_L4] at h
    refine ya_iload_n 3 rfl dX12_stockOf_4 ?_
    refine ya_aload_n 0 rfl dX12_stockOf_5 ?_
    refine ya_getR fo_X12_9 (hG.o0 83 rfl) (hG.lt0 83 (by decide)) (hG.l0 82 rfl) dX12_stockOf_6 ?_
    refine ya_iconst 0 (by decide) dX12_stockOf_9 ?_
    refine ya_iald (hG.s0 84 rfl) (hG.lt0 84 (by decide)) dX12_stockOf_10 h (fun x10 h => ?_)
    refine ya_icmp_ge 33 (by decide) dX12_stockOf_11 (fun c => ?_) (fun c => ?_)
    · replace h := ya_itet h c
      refine ya_iload_n 2 rfl dX12_stockOf_33 ?_
      cases h
      exact ya_iret rfl rfl rfl rfl rfl (Nat.le_refl _) dX12_stockOf_34
    · replace h := ya_itef h c
      refine ya_iload_n 2 rfl dX12_stockOf_14 ?_
      refine ya_aload_n 0 rfl dX12_stockOf_15 ?_
      refine ya_getR fo_X12_34 (hG.o0 83 rfl) (hG.lt0 83 (by decide)) (hG.l0 88 rfl) dX12_stockOf_16 ?_
      refine ya_iload_n 1 rfl dX12_stockOf_19 ?_
      refine ya_iload_n 3 rfl dX12_stockOf_20 ?_
      obtain ⟨x21, e21, h⟩ := ya_ob h
      refine ya_callSi (S := [.ref (X.2.1 + 90), .int v2]) (c_X12_at hG e21) m_X12_at ⟨rfl, rfl⟩ ml_X12_105 rfl ⟨Nat.le_of_ble_eq_true rfl, Nat.le_of_ble_eq_true rfl⟩ (Nat.le_of_ble_eq_true rfl) ⟨Nat.le_refl _, Nat.le_refl _⟩ dX12_stockOf_21 rfl ?_
      refine ya_iald (hG.s0 90 rfl) (hG.lt0 90 (by decide)) dX12_stockOf_24 h (fun x24 h => ?_)
      refine ya_iadd dX12_stockOf_25 ?_
      refine ya_istore_n [(2, .int (v2 + x24)), (0, .ref (X.2.1 + 83)), (1, .int v1), (3, .int v3)] (by decide) rfl dX12_stockOf_26 ?_
      refine ya_iinc (v3 + 1) rfl 3 rfl [(3, .int (v3 + 1)), (2, .int (v2 + x24)), (0, .ref (X.2.1 + 83)), (1, .int v1)] (by decide) rfl dX12_stockOf_27 ?_
      refine ya_goto 4 (by decide) dX12_stockOf_30 ?_
      refine ya_sub [(0, .ref (X.2.1 + 83)), (1, .int v1), (2, .int (v2 + x24)), (3, .int (v3 + 1))] [2, 3, 1, 0] rfl ?_
      exact ih _ _ h
set_option maxRecDepth 20000 in
theorem c_X12_stockOf {X : ya_X} {G : ya_G} {v1 : Int32} {d : ya_D} {rr : Int32} (hG : ya_Bk ya_sh ya_ln G 0) (h : f_X12_stockOf v1 d = some rr) : ya_Ct X yX12_stockOf Y_X12_stockOf [.ref (X.2.1 + 83), .int v1] G d (some (.int rr), G, d) := by
  refine ya_ct (by decide +kernel) rfl rfl (Nat.le_of_ble_eq_true rfl) ?_
  unfold f_X12_stockOf at h
  show ya_E X Y_X12_stockOf (ya_M X (some (.int rr), G, d) 0 0) 0 [(0, .ref (X.2.1 + 83)), (1, .int v1)] [] G d 0 0
  refine ya_iconst 0 (by decide) dX12_stockOf_0 ?_
  refine ya_istore_n [(2, .int 0), (0, .ref (X.2.1 + 83)), (1, .int v1)] (by decide) rfl dX12_stockOf_1 ?_
  refine ya_iconst 0 (by decide) dX12_stockOf_2 ?_
  refine ya_istore_n [(3, .int 0), (2, .int 0), (0, .ref (X.2.1 + 83)), (1, .int v1)] (by decide) rfl dX12_stockOf_3 ?_
  refine ya_sub [(0, .ref (X.2.1 + 83)), (1, .int v1), (2, .int 0), (3, .int 0)] [2, 3, 1, 0] rfl ?_
  refine w_X12_stockOf_L4 hG  ya_F _ _ h
set_option maxRecDepth 20000 in
theorem c_X12_wantsOn {X : ya_X} {G : ya_G} {v1 : Int32} {v2 : Int32} {v3 : Int32} {d : ya_D} {rr : Int32} (hG : ya_Bk ya_sh ya_ln G 0) (h : f_X12_wantsOn v1 v2 v3 d = some rr) : ya_Ct X yX12_wantsOn Y_X12_wantsOn [.ref (X.2.1 + 83), .int v1, .int v2, .int v3] G d (some (.int rr), G, d) := by
  refine ya_ct (by decide +kernel) rfl rfl (Nat.le_of_ble_eq_true rfl) ?_
  unfold f_X12_wantsOn at h
  show ya_E X Y_X12_wantsOn (ya_M X (some (.int rr), G, d) 0 0) 0 [(0, .ref (X.2.1 + 83)), (1, .int v1), (2, .int v2), (3, .int v3)] [] G d 0 0
  refine ya_aload_n 0 rfl dX12_wantsOn_0 ?_
  refine ya_iload_n 1 rfl dX12_wantsOn_1 ?_
  refine ya_iconst 0 (by decide) dX12_wantsOn_2 ?_
  obtain ⟨x3, e3, h⟩ := ya_ob h
  refine ya_callVi (S := []) (c_X12_of hG e3) m_X12_of ⟨rfl, rfl⟩ ml_X12_260 rfl ⟨Nat.le_of_ble_eq_true rfl, Nat.le_of_ble_eq_true rfl⟩ (Nat.le_of_ble_eq_true rfl) (hG.lt0 83 (by decide)) (hG.o0 83 rfl) (by decide) rfl rfl ⟨Nat.le_refl _, Nat.le_refl _⟩ dX12_wantsOn_3 rfl ?_
  refine ya_iload_n 2 rfl dX12_wantsOn_6 ?_
  refine ya_j0_s h (ya_E X Y_X12_wantsOn (ya_M X (some (.int rr), G, d) 0 0) 51 [] [] G d 0 0) (fun h => ?_) (fun k51 hk51 h => ?_)
  · refine ya_iconst 0 (by decide) dX12_wantsOn_51 ?_
    cases h
    exact ya_zret .boolean rfl rfl rfl rfl (by decide) rfl (Nat.le_refl _) dX12_wantsOn_52
  · refine ya_icmp_ne 51 (by decide) dX12_wantsOn_7 (fun c => ?_) (fun c => ?_)
    · replace h := ya_itef h c
      refine ya_sub [] [] rfl ?_
      exact hk51  h
    · replace h := ya_itet h c
      refine ya_iload_n 3 rfl dX12_wantsOn_10 ?_
      refine ya_i2l dX12_wantsOn_11 ?_
      refine ya_aload_n 0 rfl dX12_wantsOn_12 ?_
      refine ya_iload_n 1 rfl dX12_wantsOn_13 ?_
      refine ya_iconst 3 (by decide) dX12_wantsOn_14 ?_
      obtain ⟨x15, e15, h⟩ := ya_ob h
      refine ya_callVi (S := [.long ((v3).toInt64)]) (c_X12_of hG e15) m_X12_of ⟨rfl, rfl⟩ ml_X12_260 rfl ⟨Nat.le_of_ble_eq_true rfl, Nat.le_of_ble_eq_true rfl⟩ (Nat.le_of_ble_eq_true rfl) (hG.lt0 83 (by decide)) (hG.o0 83 rfl) (by decide) rfl rfl ⟨Nat.le_refl _, Nat.le_refl _⟩ dX12_wantsOn_15 rfl ?_
      refine ya_i2l dX12_wantsOn_18 ?_
      refine ya_aload_n 0 rfl dX12_wantsOn_19 ?_
      refine ya_iload_n 1 rfl dX12_wantsOn_20 ?_
      refine ya_iconst 4 (by decide) dX12_wantsOn_21 ?_
      obtain ⟨x22, e22, h⟩ := ya_ob h
      refine ya_callVi (S := [.long ((x15).toInt64), .long ((v3).toInt64)]) (c_X12_of hG e22) m_X12_of ⟨rfl, rfl⟩ ml_X12_260 rfl ⟨Nat.le_of_ble_eq_true rfl, Nat.le_of_ble_eq_true rfl⟩ (Nat.le_of_ble_eq_true rfl) (hG.lt0 83 (by decide)) (hG.o0 83 rfl) (by decide) rfl rfl ⟨Nat.le_refl _, Nat.le_refl _⟩ dX12_wantsOn_22 rfl ?_
      refine ya_i2l dX12_wantsOn_25 ?_
      obtain ⟨x26, e26, h⟩ := ya_ob h
      refine ya_callSi (S := []) (c_X12_in hG e26) m_X12_in ⟨rfl, rfl⟩ ml_X12_94 rfl ⟨Nat.le_of_ble_eq_true rfl, Nat.le_of_ble_eq_true rfl⟩ (Nat.le_of_ble_eq_true rfl) ⟨Nat.le_refl _, Nat.le_refl _⟩ dX12_wantsOn_26 rfl ?_
      refine ya_ifeq 51 (by decide) dX12_wantsOn_29 (fun c => ?_) (fun c => ?_)
      · replace h := ya_itet h c
        refine ya_sub [] [] rfl ?_
        exact hk51  h
      · replace h := ya_itef h c
        refine ya_aload_n 0 rfl dX12_wantsOn_32 ?_
        refine ya_iload_n 1 rfl dX12_wantsOn_33 ?_
        refine ya_iconst 2 (by decide) dX12_wantsOn_34 ?_
        obtain ⟨x35, e35, h⟩ := ya_ob h
        refine ya_callVi (S := []) (c_X12_of hG e35) m_X12_of ⟨rfl, rfl⟩ ml_X12_260 rfl ⟨Nat.le_of_ble_eq_true rfl, Nat.le_of_ble_eq_true rfl⟩ (Nat.le_of_ble_eq_true rfl) (hG.lt0 83 (by decide)) (hG.o0 83 rfl) (by decide) rfl rfl ⟨Nat.le_refl _, Nat.le_refl _⟩ dX12_wantsOn_35 rfl ?_
        refine ya_aload_n 0 rfl dX12_wantsOn_38 ?_
        refine ya_iload_n 2 rfl dX12_wantsOn_39 ?_
        refine ya_iload_n 3 rfl dX12_wantsOn_40 ?_
        obtain ⟨x41, e41, h⟩ := ya_ob h
        refine ya_callVi (S := [.int x35]) (c_X12_priceOf hG e41) m_X12_priceOf ⟨rfl, rfl⟩ ml_X12_263 rfl ⟨Nat.le_of_ble_eq_true rfl, Nat.le_of_ble_eq_true rfl⟩ (Nat.le_of_ble_eq_true rfl) (hG.lt0 83 (by decide)) (hG.o0 83 rfl) (by decide) rfl rfl ⟨Nat.le_refl _, Nat.le_refl _⟩ dX12_wantsOn_41 rfl ?_
        refine ya_icmp_lt 51 (by decide) dX12_wantsOn_44 (fun c => ?_) (fun c => ?_)
        · replace h := ya_itet h c
          refine ya_sub [] [] rfl ?_
          exact hk51  h
        · replace h := ya_itef h c
          refine ya_iconst 1 (by decide) dX12_wantsOn_47 ?_
          refine ya_goto 52 (by decide) dX12_wantsOn_48 ?_
          cases h
          exact ya_zret .boolean rfl rfl rfl rfl (by decide) rfl (Nat.le_refl _) dX12_wantsOn_52
set_option maxRecDepth 20000 in
theorem w_X12_askedOf_L5 {X : ya_X} {G : ya_G} {v1 : Int32} {v2 : Int32} {d : ya_D} {rr : Int32} (hG : ya_Bk ya_sh ya_ln G 0) : ∀ (n : Nat) (v3 : Int32) (v4 : Int32), f_X12_askedOf_L5 v1 v2 d n v3 v4 = some rr → ya_E X Y_X12_askedOf (ya_M X (some (.int rr), G, d) 0 0) 5 [(0, .ref (X.2.1 + 83)), (1, .int v1), (2, .int v2), (3, .int v3), (4, .int v4)] [] G d 0 0 := by
  intro n
  induction n with
  | zero => intro v3 v4 h; cases h
  | succ n ih =>
    intro v3 v4 h
    rw [f_X12_askedOf_L5] at h
    refine ya_iload 4 rfl dX12_askedOf_5 ?_
    refine ya_aload_n 0 rfl dX12_askedOf_7 ?_
    refine ya_getR fo_X12_9 (hG.o0 83 rfl) (hG.lt0 83 (by decide)) (hG.l0 82 rfl) dX12_askedOf_8 ?_
    refine ya_iconst 3 (by decide) dX12_askedOf_11 ?_
    refine ya_iald (hG.s0 84 rfl) (hG.lt0 84 (by decide)) dX12_askedOf_12 h (fun x12 h => ?_)
    refine ya_icmp_ge 47 (by decide) dX12_askedOf_13 (fun c => ?_) (fun c => ?_)
    · replace h := ya_itet h c
      refine ya_iload_n 3 rfl dX12_askedOf_47 ?_
      cases h
      exact ya_iret rfl rfl rfl rfl rfl (Nat.le_refl _) dX12_askedOf_48
    · replace h := ya_itef h c
      refine ya_iload_n 3 rfl dX12_askedOf_16 ?_
      refine ya_aload_n 0 rfl dX12_askedOf_17 ?_
      refine ya_iload 4 rfl dX12_askedOf_18 ?_
      refine ya_iload_n 1 rfl dX12_askedOf_20 ?_
      refine ya_iload_n 2 rfl dX12_askedOf_21 ?_
      obtain ⟨x22, e22, h⟩ := ya_ob h
      refine ya_callVi (S := [.int v3]) (c_X12_wantsOn hG e22) m_X12_wantsOn ⟨rfl, rfl⟩ ml_X12_266 rfl ⟨Nat.le_of_ble_eq_true rfl, Nat.le_of_ble_eq_true rfl⟩ (Nat.le_of_ble_eq_true rfl) (hG.lt0 83 (by decide)) (hG.o0 83 rfl) (by decide) rfl rfl ⟨Nat.le_refl _, Nat.le_refl _⟩ dX12_askedOf_22 rfl ?_
      refine ya_j1_s h (fun t0_39 => ya_E X Y_X12_askedOf (ya_M X (some (.int rr), G, d) 0 0) 39 [(0, .ref (X.2.1 + 83)), (1, .int v1), (2, .int v2), (4, .int v4)] [.int t0_39, .int v3] G d 0 0) (fun t0_39 h => ?_) (fun k39 hk39 h => ?_)
      · refine ya_iadd dX12_askedOf_39 ?_
        refine ya_istore_n [(3, .int (v3 + t0_39)), (0, .ref (X.2.1 + 83)), (1, .int v1), (2, .int v2), (4, .int v4)] (by decide) rfl dX12_askedOf_40 ?_
        refine ya_iinc (v4 + 1) rfl 4 rfl [(4, .int (v4 + 1)), (3, .int (v3 + t0_39)), (0, .ref (X.2.1 + 83)), (1, .int v1), (2, .int v2)] (by decide) rfl dX12_askedOf_41 ?_
        refine ya_goto 5 (by decide) dX12_askedOf_44 ?_
        refine ya_sub [(0, .ref (X.2.1 + 83)), (1, .int v1), (2, .int v2), (3, .int (v3 + t0_39)), (4, .int (v4 + 1))] [2, 3, 4, 1, 0] rfl ?_
        exact ih _ _ h
      · refine ya_ifeq 38 (by decide) dX12_askedOf_25 (fun c => ?_) (fun c => ?_)
        · replace h := ya_itet h c
          refine ya_iconst 0 (by decide) dX12_askedOf_38 ?_
          refine ya_sub [(0, .ref (X.2.1 + 83)), (1, .int v1), (2, .int v2), (4, .int v4)] [0, 1, 2, 4] rfl ?_
          exact hk39 _ h
        · replace h := ya_itef h c
          refine ya_aload_n 0 rfl dX12_askedOf_28 ?_
          refine ya_iload 4 rfl dX12_askedOf_29 ?_
          refine ya_iconst 1 (by decide) dX12_askedOf_31 ?_
          obtain ⟨x32, e32, h⟩ := ya_ob h
          refine ya_callVi (S := [.int v3]) (c_X12_of hG e32) m_X12_of ⟨rfl, rfl⟩ ml_X12_260 rfl ⟨Nat.le_of_ble_eq_true rfl, Nat.le_of_ble_eq_true rfl⟩ (Nat.le_of_ble_eq_true rfl) (hG.lt0 83 (by decide)) (hG.o0 83 rfl) (by decide) rfl rfl ⟨Nat.le_refl _, Nat.le_refl _⟩ dX12_askedOf_32 rfl ?_
          refine ya_goto 39 (by decide) dX12_askedOf_35 ?_
          refine ya_sub [(0, .ref (X.2.1 + 83)), (1, .int v1), (2, .int v2), (4, .int v4)] [0, 1, 2, 4] rfl ?_
          exact hk39 _ h
set_option maxRecDepth 20000 in
theorem c_X12_askedOf {X : ya_X} {G : ya_G} {v1 : Int32} {v2 : Int32} {d : ya_D} {rr : Int32} (hG : ya_Bk ya_sh ya_ln G 0) (h : f_X12_askedOf v1 v2 d = some rr) : ya_Ct X yX12_askedOf Y_X12_askedOf [.ref (X.2.1 + 83), .int v1, .int v2] G d (some (.int rr), G, d) := by
  refine ya_ct (by decide +kernel) rfl rfl (Nat.le_of_ble_eq_true rfl) ?_
  unfold f_X12_askedOf at h
  show ya_E X Y_X12_askedOf (ya_M X (some (.int rr), G, d) 0 0) 0 [(0, .ref (X.2.1 + 83)), (1, .int v1), (2, .int v2)] [] G d 0 0
  refine ya_iconst 0 (by decide) dX12_askedOf_0 ?_
  refine ya_istore_n [(3, .int 0), (0, .ref (X.2.1 + 83)), (1, .int v1), (2, .int v2)] (by decide) rfl dX12_askedOf_1 ?_
  refine ya_iconst 0 (by decide) dX12_askedOf_2 ?_
  refine ya_istore [(4, .int 0), (3, .int 0), (0, .ref (X.2.1 + 83)), (1, .int v1), (2, .int v2)] (by decide) rfl dX12_askedOf_3 ?_
  refine ya_sub [(0, .ref (X.2.1 + 83)), (1, .int v1), (2, .int v2), (3, .int 0), (4, .int 0)] [2, 3, 4, 1, 0] rfl ?_
  refine w_X12_askedOf_L5 hG  ya_F _ _ h
set_option maxRecDepth 20000 in
theorem w_X12_spoilsIn_L14 {X : ya_X} {G : ya_G} {v1 : Int32} {v2 : Int32} {rr : ya_D} {e92 : ya_D → Option ya_D} (hG : ya_Bk ya_sh ya_ln G 0) (he92 : ∀ (d : ya_D), e92 d = some rr → ya_E X Y_X12_spoilsIn (ya_M X (none, G, rr) 0 0) 92 [(0, .ref (X.2.1 + 83)), (1, .int v1), (2, .int v2)] [] G d 0 0) : ∀ (n : Nat) (v3 : Int32) (d : ya_D), f_X12_spoilsIn_L14 v1 v2 e92 n v3 d = some rr → ya_E X Y_X12_spoilsIn (ya_M X (none, G, rr) 0 0) 14 [(0, .ref (X.2.1 + 83)), (1, .int v1), (2, .int v2), (3, .int v3)] [] G d 0 0 := by
  intro n
  induction n with
  | zero => intro v3 d h; cases h
  | succ n ih =>
    intro v3 d h
    rw [f_X12_spoilsIn_L14] at h
    refine ya_iload_n 3 rfl dX12_spoilsIn_14 ?_
    refine ya_aload_n 0 rfl dX12_spoilsIn_15 ?_
    refine ya_aload_n 0 rfl dX12_spoilsIn_16 ?_
    refine ya_iload_n 2 rfl dX12_spoilsIn_17 ?_
    obtain ⟨x18, e18, h⟩ := ya_ob h
    refine ya_callVi (S := [.ref (X.2.1 + 83), .int v3]) (c_X12_thingOf hG e18) m_X12_thingOf ⟨rfl, rfl⟩ ml_X12_270 rfl ⟨Nat.le_of_ble_eq_true rfl, Nat.le_of_ble_eq_true rfl⟩ (Nat.le_of_ble_eq_true rfl) (hG.lt0 83 (by decide)) (hG.o0 83 rfl) (by decide) rfl rfl ⟨Nat.le_refl _, Nat.le_refl _⟩ dX12_spoilsIn_18 rfl ?_
    obtain ⟨x21, e21, h⟩ := ya_ob h
    refine ya_callVi (S := [.int v3]) (c_X12_keepsOf hG e21) m_X12_keepsOf ⟨rfl, rfl⟩ ml_X12_273 rfl ⟨Nat.le_of_ble_eq_true rfl, Nat.le_of_ble_eq_true rfl⟩ (Nat.le_of_ble_eq_true rfl) (hG.lt0 83 (by decide)) (hG.o0 83 rfl) (by decide) rfl rfl ⟨Nat.le_refl _, Nat.le_refl _⟩ dX12_spoilsIn_21 rfl ?_
    refine ya_iadd dX12_spoilsIn_24 ?_
    refine ya_iload_n 1 rfl dX12_spoilsIn_25 ?_
    refine ya_icmp_ge 92 (by decide) dX12_spoilsIn_26 (fun c => ?_) (fun c => ?_)
    · replace h := ya_itet h c
      refine ya_sub [(0, .ref (X.2.1 + 83)), (1, .int v1), (2, .int v2)] [0, 1, 2] rfl ?_
      exact he92 _ h
    · replace h := ya_itef h c
      refine ya_aload_n 0 rfl dX12_spoilsIn_29 ?_
      refine ya_getR fo_X12_55 (hG.o0 83 rfl) (hG.lt0 83 (by decide)) (hG.l0 95 rfl) dX12_spoilsIn_30 ?_
      refine ya_iload_n 2 rfl dX12_spoilsIn_33 ?_
      refine ya_dup2 rfl rfl dX12_spoilsIn_34 ?_
      refine ya_iald (hG.s0 97 rfl) (hG.lt0 97 (by decide)) dX12_spoilsIn_35 h (fun x35 h => ?_)
      refine ya_aload_n 0 rfl dX12_spoilsIn_36 ?_
      refine ya_getR fo_X12_34 (hG.o0 83 rfl) (hG.lt0 83 (by decide)) (hG.l0 88 rfl) dX12_spoilsIn_37 ?_
      refine ya_iload_n 2 rfl dX12_spoilsIn_40 ?_
      refine ya_iload_n 3 rfl dX12_spoilsIn_41 ?_
      obtain ⟨x42, e42, h⟩ := ya_ob h
      refine ya_callSi (S := [.ref (X.2.1 + 90), .int x35, .int v2, .ref (X.2.1 + 97)]) (c_X12_at hG e42) m_X12_at ⟨rfl, rfl⟩ ml_X12_105 rfl ⟨Nat.le_of_ble_eq_true rfl, Nat.le_of_ble_eq_true rfl⟩ (Nat.le_of_ble_eq_true rfl) ⟨Nat.le_refl _, Nat.le_refl _⟩ dX12_spoilsIn_42 rfl ?_
      refine ya_iald (hG.s0 90 rfl) (hG.lt0 90 (by decide)) dX12_spoilsIn_45 h (fun x45 h => ?_)
      refine ya_iadd dX12_spoilsIn_46 ?_
      refine ya_iast (hG.s0 97 rfl) (hG.lt0 97 (by decide)) dX12_spoilsIn_47 h (fun d47 h => ?_)
      refine ya_aload_n 0 rfl dX12_spoilsIn_48 ?_
      refine ya_getR fo_X12_64 (hG.o0 83 rfl) (hG.lt0 83 (by decide)) (hG.l0 98 rfl) dX12_spoilsIn_49 ?_
      refine ya_aload_n 0 rfl dX12_spoilsIn_52 ?_
      refine ya_iload_n 2 rfl dX12_spoilsIn_53 ?_
      obtain ⟨x54, e54, h⟩ := ya_ob h
      refine ya_callVi (S := [.ref (X.2.1 + 100)]) (c_X12_thingOf hG e54) m_X12_thingOf ⟨rfl, rfl⟩ ml_X12_270 rfl ⟨Nat.le_of_ble_eq_true rfl, Nat.le_of_ble_eq_true rfl⟩ (Nat.le_of_ble_eq_true rfl) (hG.lt0 83 (by decide)) (hG.o0 83 rfl) (by decide) rfl rfl ⟨Nat.le_refl _, Nat.le_refl _⟩ dX12_spoilsIn_54 rfl ?_
      refine ya_iload_n 1 rfl dX12_spoilsIn_57 ?_
      obtain ⟨x58, e58, h⟩ := ya_ob h
      refine ya_callSi (S := [.ref (X.2.1 + 100)]) (c_X12_at hG e58) m_X12_at ⟨rfl, rfl⟩ ml_X12_105 rfl ⟨Nat.le_of_ble_eq_true rfl, Nat.le_of_ble_eq_true rfl⟩ (Nat.le_of_ble_eq_true rfl) ⟨Nat.le_refl _, Nat.le_refl _⟩ dX12_spoilsIn_58 rfl ?_
      refine ya_dup2 rfl rfl dX12_spoilsIn_61 ?_
      refine ya_iald (hG.s0 100 rfl) (hG.lt0 100 (by decide)) dX12_spoilsIn_62 h (fun x62 h => ?_)
      refine ya_aload_n 0 rfl dX12_spoilsIn_63 ?_
      refine ya_getR fo_X12_34 (hG.o0 83 rfl) (hG.lt0 83 (by decide)) (hG.l0 88 rfl) dX12_spoilsIn_64 ?_
      refine ya_iload_n 2 rfl dX12_spoilsIn_67 ?_
      refine ya_iload_n 3 rfl dX12_spoilsIn_68 ?_
      obtain ⟨x69, e69, h⟩ := ya_ob h
      refine ya_callSi (S := [.ref (X.2.1 + 90), .int x62, .int x58, .ref (X.2.1 + 100)]) (c_X12_at hG e69) m_X12_at ⟨rfl, rfl⟩ ml_X12_105 rfl ⟨Nat.le_of_ble_eq_true rfl, Nat.le_of_ble_eq_true rfl⟩ (Nat.le_of_ble_eq_true rfl) ⟨Nat.le_refl _, Nat.le_refl _⟩ dX12_spoilsIn_69 rfl ?_
      refine ya_iald (hG.s0 90 rfl) (hG.lt0 90 (by decide)) dX12_spoilsIn_72 h (fun x72 h => ?_)
      refine ya_iadd dX12_spoilsIn_73 ?_
      refine ya_iast (hG.s0 100 rfl) (hG.lt0 100 (by decide)) dX12_spoilsIn_74 h (fun d74 h => ?_)
      refine ya_aload_n 0 rfl dX12_spoilsIn_75 ?_
      refine ya_getR fo_X12_34 (hG.o0 83 rfl) (hG.lt0 83 (by decide)) (hG.l0 88 rfl) dX12_spoilsIn_76 ?_
      refine ya_iload_n 2 rfl dX12_spoilsIn_79 ?_
      refine ya_iload_n 3 rfl dX12_spoilsIn_80 ?_
      obtain ⟨x81, e81, h⟩ := ya_ob h
      refine ya_callSi (S := [.ref (X.2.1 + 90)]) (c_X12_at hG e81) m_X12_at ⟨rfl, rfl⟩ ml_X12_105 rfl ⟨Nat.le_of_ble_eq_true rfl, Nat.le_of_ble_eq_true rfl⟩ (Nat.le_of_ble_eq_true rfl) ⟨Nat.le_refl _, Nat.le_refl _⟩ dX12_spoilsIn_81 rfl ?_
      refine ya_iconst 0 (by decide) dX12_spoilsIn_84 ?_
      refine ya_iast (hG.s0 90 rfl) (hG.lt0 90 (by decide)) dX12_spoilsIn_85 h (fun d85 h => ?_)
      refine ya_iinc (v3 + 1) rfl 3 rfl [(3, .int (v3 + 1)), (0, .ref (X.2.1 + 83)), (1, .int v1), (2, .int v2)] (by decide) rfl dX12_spoilsIn_86 ?_
      refine ya_goto 14 (by decide) dX12_spoilsIn_89 ?_
      refine ya_sub [(0, .ref (X.2.1 + 83)), (1, .int v1), (2, .int v2), (3, .int (v3 + 1))] [1, 2, 3, 0] rfl ?_
      exact ih _ _ h
set_option maxRecDepth 20000 in
theorem w_X12_spoilsIn_L2 {X : ya_X} {G : ya_G} {v1 : Int32} {rr : ya_D} (hG : ya_Bk ya_sh ya_ln G 0) : ∀ (n : Nat) (v2 : Int32) (d : ya_D), f_X12_spoilsIn_L2 v1 n v2 d = some rr → ya_E X Y_X12_spoilsIn (ya_M X (none, G, rr) 0 0) 2 [(0, .ref (X.2.1 + 83)), (1, .int v1), (2, .int v2)] [] G d 0 0 := by
  intro n
  induction n with
  | zero => intro v2 d h; cases h
  | succ n ih =>
    intro v2 d h
    rw [f_X12_spoilsIn_L2] at h
    refine ya_iload_n 2 rfl dX12_spoilsIn_2 ?_
    refine ya_aload_n 0 rfl dX12_spoilsIn_3 ?_
    refine ya_getR fo_X12_9 (hG.o0 83 rfl) (hG.lt0 83 (by decide)) (hG.l0 82 rfl) dX12_spoilsIn_4 ?_
    refine ya_iconst 2 (by decide) dX12_spoilsIn_7 ?_
    refine ya_iald (hG.s0 84 rfl) (hG.lt0 84 (by decide)) dX12_spoilsIn_8 h (fun x8 h => ?_)
    refine ya_icmp_ge 114 (by decide) dX12_spoilsIn_9 (fun c => ?_) (fun c => ?_)
    · replace h := ya_itet h c
      cases h
      exact ya_vret rfl rfl rfl rfl rfl (Nat.le_refl _) dX12_spoilsIn_114
    · replace h := ya_itef h c
      refine ya_iconst 0 (by decide) dX12_spoilsIn_12 ?_
      refine ya_istore_n [(3, .int 0), (0, .ref (X.2.1 + 83)), (1, .int v1), (2, .int v2)] (by decide) rfl dX12_spoilsIn_13 ?_
      refine ya_sub [(0, .ref (X.2.1 + 83)), (1, .int v1), (2, .int v2), (3, .int 0)] [1, 2, 3, 0] rfl ?_
      refine w_X12_spoilsIn_L14 hG (fun d_92 h => ?_) ya_F _ _ h
      refine ya_aload_n 0 rfl dX12_spoilsIn_92 ?_
      refine ya_getR fo_X12_34 (hG.o0 83 rfl) (hG.lt0 83 (by decide)) (hG.l0 88 rfl) dX12_spoilsIn_93 ?_
      refine ya_iload_n 2 rfl dX12_spoilsIn_96 ?_
      refine ya_iload_n 1 rfl dX12_spoilsIn_97 ?_
      obtain ⟨x98, e98, h⟩ := ya_ob h
      refine ya_callSi (S := [.ref (X.2.1 + 90)]) (c_X12_at hG e98) m_X12_at ⟨rfl, rfl⟩ ml_X12_105 rfl ⟨Nat.le_of_ble_eq_true rfl, Nat.le_of_ble_eq_true rfl⟩ (Nat.le_of_ble_eq_true rfl) ⟨Nat.le_refl _, Nat.le_refl _⟩ dX12_spoilsIn_98 rfl ?_
      refine ya_aload_n 0 rfl dX12_spoilsIn_101 ?_
      refine ya_iload_n 2 rfl dX12_spoilsIn_102 ?_
      refine ya_iload_n 1 rfl dX12_spoilsIn_103 ?_
      obtain ⟨x104, e104, h⟩ := ya_ob h
      refine ya_callVi (S := [.int x98, .ref (X.2.1 + 90)]) (c_X12_comesTo hG e104) m_X12_comesTo ⟨rfl, rfl⟩ ml_X12_276 rfl ⟨Nat.le_of_ble_eq_true rfl, Nat.le_of_ble_eq_true rfl⟩ (Nat.le_of_ble_eq_true rfl) (hG.lt0 83 (by decide)) (hG.o0 83 rfl) (by decide) rfl rfl ⟨Nat.le_refl _, Nat.le_refl _⟩ dX12_spoilsIn_104 rfl ?_
      refine ya_iast (hG.s0 90 rfl) (hG.lt0 90 (by decide)) dX12_spoilsIn_107 h (fun d107 h => ?_)
      refine ya_iinc (v2 + 1) rfl 2 rfl [(2, .int (v2 + 1)), (0, .ref (X.2.1 + 83)), (1, .int v1)] (by decide) rfl dX12_spoilsIn_108 ?_
      refine ya_goto 2 (by decide) dX12_spoilsIn_111 ?_
      refine ya_sub [(0, .ref (X.2.1 + 83)), (1, .int v1), (2, .int (v2 + 1))] [1, 2, 0] rfl ?_
      exact ih _ _ h
set_option maxRecDepth 20000 in
theorem c_X12_spoilsIn {X : ya_X} {G : ya_G} {v1 : Int32} {d : ya_D} {rr : ya_D} (hG : ya_Bk ya_sh ya_ln G 0) (h : f_X12_spoilsIn v1 d = some rr) : ya_Ct X yX12_spoilsIn Y_X12_spoilsIn [.ref (X.2.1 + 83), .int v1] G d (none, G, rr) := by
  refine ya_ct (by decide +kernel) rfl rfl (Nat.le_of_ble_eq_true rfl) ?_
  unfold f_X12_spoilsIn at h
  show ya_E X Y_X12_spoilsIn (ya_M X (none, G, rr) 0 0) 0 [(0, .ref (X.2.1 + 83)), (1, .int v1)] [] G d 0 0
  refine ya_iconst 0 (by decide) dX12_spoilsIn_0 ?_
  refine ya_istore_n [(2, .int 0), (0, .ref (X.2.1 + 83)), (1, .int v1)] (by decide) rfl dX12_spoilsIn_1 ?_
  refine ya_sub [(0, .ref (X.2.1 + 83)), (1, .int v1), (2, .int 0)] [1, 2, 0] rfl ?_
  refine w_X12_spoilsIn_L2 hG  ya_F _ _ h
set_option maxRecDepth 20000 in
theorem c_X12_offers {X : ya_X} {G : ya_G} {v1 : Int32} {v2 : Int32} {v3 : Int32} {d : ya_D} {rr : Int32} (hG : ya_Bk ya_sh ya_ln G 0) (h : f_X12_offers v1 v2 v3 d = some rr) : ya_Ct X yX12_offers Y_X12_offers [.ref (X.2.1 + 83), .int v1, .int v2, .int v3] G d (some (.int rr), G, d) := by
  refine ya_ct (by decide +kernel) rfl rfl (Nat.le_of_ble_eq_true rfl) ?_
  unfold f_X12_offers at h
  show ya_E X Y_X12_offers (ya_M X (some (.int rr), G, d) 0 0) 0 [(0, .ref (X.2.1 + 83)), (1, .int v1), (2, .int v2), (3, .int v3)] [] G d 0 0
  refine ya_aload_n 0 rfl dX12_offers_0 ?_
  refine ya_iload_n 1 rfl dX12_offers_1 ?_
  obtain ⟨x2, e2, h⟩ := ya_ob h
  refine ya_callVi (S := []) (c_X12_thingOf hG e2) m_X12_thingOf ⟨rfl, rfl⟩ ml_X12_270 rfl ⟨Nat.le_of_ble_eq_true rfl, Nat.le_of_ble_eq_true rfl⟩ (Nat.le_of_ble_eq_true rfl) (hG.lt0 83 (by decide)) (hG.o0 83 rfl) (by decide) rfl rfl ⟨Nat.le_refl _, Nat.le_refl _⟩ dX12_offers_2 rfl ?_
  refine ya_iload_n 2 rfl dX12_offers_5 ?_
  refine ya_j0_s h (ya_E X Y_X12_offers (ya_M X (some (.int rr), G, d) 0 0) 28 [] [] G d 0 0) (fun h => ?_) (fun k28 hk28 h => ?_)
  · refine ya_iconst 0 (by decide) dX12_offers_28 ?_
    cases h
    exact ya_zret .boolean rfl rfl rfl rfl (by decide) rfl (Nat.le_refl _) dX12_offers_29
  · refine ya_icmp_ne 28 (by decide) dX12_offers_6 (fun c => ?_) (fun c => ?_)
    · replace h := ya_itef h c
      refine ya_sub [] [] rfl ?_
      exact hk28  h
    · replace h := ya_itet h c
      refine ya_aload_n 0 rfl dX12_offers_9 ?_
      refine ya_iload_n 1 rfl dX12_offers_10 ?_
      refine ya_iconst 1 (by decide) dX12_offers_11 ?_
      obtain ⟨x12, e12, h⟩ := ya_ob h
      refine ya_callVi (S := []) (c_X12_seller3 hG e12) m_X12_seller3 ⟨rfl, rfl⟩ ml_X12_109 rfl ⟨Nat.le_of_ble_eq_true rfl, Nat.le_of_ble_eq_true rfl⟩ (Nat.le_of_ble_eq_true rfl) (hG.lt0 83 (by decide)) (hG.o0 83 rfl) (by decide) rfl rfl ⟨Nat.le_refl _, Nat.le_refl _⟩ dX12_offers_12 rfl ?_
      refine ya_aload_n 0 rfl dX12_offers_15 ?_
      refine ya_iload_n 2 rfl dX12_offers_16 ?_
      refine ya_iload_n 3 rfl dX12_offers_17 ?_
      obtain ⟨x18, e18, h⟩ := ya_ob h
      refine ya_callVi (S := [.int x12]) (c_X12_priceOf hG e18) m_X12_priceOf ⟨rfl, rfl⟩ ml_X12_263 rfl ⟨Nat.le_of_ble_eq_true rfl, Nat.le_of_ble_eq_true rfl⟩ (Nat.le_of_ble_eq_true rfl) (hG.lt0 83 (by decide)) (hG.o0 83 rfl) (by decide) rfl rfl ⟨Nat.le_refl _, Nat.le_refl _⟩ dX12_offers_18 rfl ?_
      refine ya_icmp_gt 28 (by decide) dX12_offers_21 (fun c => ?_) (fun c => ?_)
      · replace h := ya_itet h c
        refine ya_sub [] [] rfl ?_
        exact hk28  h
      · replace h := ya_itef h c
        refine ya_iconst 1 (by decide) dX12_offers_24 ?_
        refine ya_goto 29 (by decide) dX12_offers_25 ?_
        cases h
        exact ya_zret .boolean rfl rfl rfl rfl (by decide) rfl (Nat.le_refl _) dX12_offers_29
set_option maxRecDepth 20000 in
theorem w_X12_takes__L20 {X : ya_X} {G : ya_G} {v1 : Int32} {v2 : Int32} {v5 : Int32} {rr : ya_D} {e121 : Int32 → ya_D → Option ya_D} (hG : ya_Bk ya_sh ya_ln G 0) (he121 : ∀ (v4 : Int32) (d : ya_D), e121 v4 d = some rr → ya_E X Y_X12_takes_ (ya_M X (none, G, rr) 0 0) 121 [(0, .ref (X.2.1 + 83)), (1, .int v1), (2, .int v2), (4, .int v4), (5, .int v5)] [] G d 0 0) : ∀ (n : Nat) (v4 : Int32) (v6 : Int32) (d : ya_D), f_X12_takes__L20 v1 v2 v5 e121 n v4 v6 d = some rr → ya_E X Y_X12_takes_ (ya_M X (none, G, rr) 0 0) 20 [(0, .ref (X.2.1 + 83)), (1, .int v1), (2, .int v2), (4, .int v4), (5, .int v5), (6, .int v6)] [] G d 0 0 := by
  intro n
  induction n with
  | zero => intro v4 v6 d h; cases h
  | succ n ih =>
    intro v4 v6 d h
    rw [f_X12_takes__L20] at h
    refine ya_iload 5 rfl dX12_takes__20 ?_
    refine ya_iload_n 2 rfl dX12_takes__22 ?_
    refine ya_icmp_gt 121 (by decide) dX12_takes__23 (fun c => ?_) (fun c => ?_)
    · replace h := ya_itet h c
      refine ya_sub [(0, .ref (X.2.1 + 83)), (1, .int v1), (2, .int v2), (4, .int v4), (5, .int v5)] [0, 1, 2, 3, 4] rfl ?_
      exact he121 _ _ h
    · replace h := ya_itef h c
      refine ya_aload_n 0 rfl dX12_takes__26 ?_
      refine ya_iload 4 rfl dX12_takes__27 ?_
      refine ya_iload_n 1 rfl dX12_takes__29 ?_
      refine ya_iload_n 2 rfl dX12_takes__30 ?_
      obtain ⟨x31, e31, h⟩ := ya_ob h
      refine ya_callVi (S := []) (c_X12_offers hG e31) m_X12_offers ⟨rfl, rfl⟩ ml_X12_279 rfl ⟨Nat.le_of_ble_eq_true rfl, Nat.le_of_ble_eq_true rfl⟩ (Nat.le_of_ble_eq_true rfl) (hG.lt0 83 (by decide)) (hG.o0 83 rfl) (by decide) rfl rfl ⟨Nat.le_refl _, Nat.le_refl _⟩ dX12_takes__31 rfl ?_
      refine ya_ifeq 121 (by decide) dX12_takes__34 (fun c => ?_) (fun c => ?_)
      · replace h := ya_itet h c
        refine ya_sub [(0, .ref (X.2.1 + 83)), (1, .int v1), (2, .int v2), (4, .int v4), (5, .int v5)] [0, 1, 2, 3, 4] rfl ?_
        exact he121 _ _ h
      · replace h := ya_itef h c
        refine ya_iload 3 rfl dX12_takes__37 ?_
        refine ya_aload_n 0 rfl dX12_takes__39 ?_
        refine ya_getR fo_X12_34 (hG.o0 83 rfl) (hG.lt0 83 (by decide)) (hG.l0 88 rfl) dX12_takes__40 ?_
        refine ya_iload 4 rfl dX12_takes__43 ?_
        refine ya_iload 5 rfl dX12_takes__45 ?_
        obtain ⟨x47, e47, h⟩ := ya_ob h
        refine ya_callSi (S := [.ref (X.2.1 + 90), .int v4]) (c_X12_at hG e47) m_X12_at ⟨rfl, rfl⟩ ml_X12_105 rfl ⟨Nat.le_of_ble_eq_true rfl, Nat.le_of_ble_eq_true rfl⟩ (Nat.le_of_ble_eq_true rfl) ⟨Nat.le_refl _, Nat.le_refl _⟩ dX12_takes__47 rfl ?_
        refine ya_iald (hG.s0 90 rfl) (hG.lt0 90 (by decide)) dX12_takes__50 h (fun x50 h => ?_)
        refine ya_mmin ml_X12_142 wm_min1 wm_min2 wm_min3 (by decide) (Nat.le_of_ble_eq_true rfl) ⟨Nat.le_refl _, Nat.le_refl _⟩ dX12_takes__51 ?_
        refine ya_istore [(7, .int (ya_min v4 x50)), (0, .ref (X.2.1 + 83)), (1, .int v1), (2, .int v2), (4, .int v4), (5, .int v5), (6, .int v6)] (by decide) rfl dX12_takes__54 ?_
        refine ya_aload_n 1 rfl dX12_takes__56 ?_
        refine ya_getR fo_X12_34 (hG.o0 83 rfl) (hG.lt0 83 (by decide)) (hG.l0 88 rfl) dX12_takes__57 ?_
        refine ya_iload 5 rfl dX12_takes__60 ?_
        refine ya_iload 6 rfl dX12_takes__62 ?_
        obtain ⟨x64, e64, h⟩ := ya_ob h
        refine ya_callSi (S := [.ref (X.2.1 + 90)]) (c_X12_at hG e64) m_X12_at ⟨rfl, rfl⟩ ml_X12_105 rfl ⟨Nat.le_of_ble_eq_true rfl, Nat.le_of_ble_eq_true rfl⟩ (Nat.le_of_ble_eq_true rfl) ⟨Nat.le_refl _, Nat.le_refl _⟩ dX12_takes__64 rfl ?_
        refine ya_dup2 rfl rfl dX12_takes__67 ?_
        refine ya_iald (hG.s0 90 rfl) (hG.lt0 90 (by decide)) dX12_takes__68 h (fun x68 h => ?_)
        refine ya_iload 0 rfl dX12_takes__69 ?_
        refine ya_isub dX12_takes__71 ?_
        refine ya_iast (hG.s0 90 rfl) (hG.lt0 90 (by decide)) dX12_takes__72 h (fun d72 h => ?_)
        refine ya_aload_n 1 rfl dX12_takes__73 ?_
        refine ya_getR fo_X12_52 (hG.o0 83 rfl) (hG.lt0 83 (by decide)) (hG.l0 94 rfl) dX12_takes__74 ?_
        refine ya_iload 5 rfl dX12_takes__77 ?_
        refine ya_dup2 rfl rfl dX12_takes__79 ?_
        refine ya_iald (hG.s0 96 rfl) (hG.lt0 96 (by decide)) dX12_takes__80 h (fun x80 h => ?_)
        refine ya_iload 0 rfl dX12_takes__81 ?_
        refine ya_iadd dX12_takes__83 ?_
        refine ya_iast (hG.s0 96 rfl) (hG.lt0 96 (by decide)) dX12_takes__84 h (fun d84 h => ?_)
        refine ya_aload_n 1 rfl dX12_takes__85 ?_
        refine ya_getR fo_X12_46 (hG.o0 83 rfl) (hG.lt0 83 (by decide)) (hG.l0 92 rfl) dX12_takes__86 ?_
        refine ya_iload 5 rfl dX12_takes__89 ?_
        refine ya_iload_n 3 rfl dX12_takes__91 ?_
        obtain ⟨x92, e92, h⟩ := ya_ob h
        refine ya_callSi (S := [.ref (X.2.1 + 94)]) (c_X12_at hG e92) m_X12_at ⟨rfl, rfl⟩ ml_X12_105 rfl ⟨Nat.le_of_ble_eq_true rfl, Nat.le_of_ble_eq_true rfl⟩ (Nat.le_of_ble_eq_true rfl) ⟨Nat.le_refl _, Nat.le_refl _⟩ dX12_takes__92 rfl ?_
        refine ya_dup2 rfl rfl dX12_takes__95 ?_
        refine ya_iald (hG.s0 94 rfl) (hG.lt0 94 (by decide)) dX12_takes__96 h (fun x96 h => ?_)
        refine ya_iload 0 rfl dX12_takes__97 ?_
        refine ya_aload_n 1 rfl dX12_takes__99 ?_
        refine ya_iload_n 2 rfl dX12_takes__100 ?_
        refine ya_iload_n 3 rfl dX12_takes__101 ?_
        obtain ⟨x102, e102, h⟩ := ya_ob h
        refine ya_callVi (S := [.int (ya_min v4 x50), .int x96, .int x92, .ref (X.2.1 + 94)]) (c_X12_priceOf hG e102) m_X12_priceOf ⟨rfl, rfl⟩ ml_X12_263 rfl ⟨Nat.le_of_ble_eq_true rfl, Nat.le_of_ble_eq_true rfl⟩ (Nat.le_of_ble_eq_true rfl) (hG.lt0 83 (by decide)) (hG.o0 83 rfl) (by decide) rfl rfl ⟨Nat.le_refl _, Nat.le_refl _⟩ dX12_takes__102 rfl ?_
        refine ya_imul dX12_takes__105 ?_
        refine ya_iadd dX12_takes__106 ?_
        refine ya_iast (hG.s0 94 rfl) (hG.lt0 94 (by decide)) dX12_takes__107 h (fun d107 h => ?_)
        refine ya_iload 4 rfl dX12_takes__108 ?_
        refine ya_iload 0 rfl dX12_takes__110 ?_
        refine ya_isub dX12_takes__112 ?_
        refine ya_istore [(4, .int (v4 - (ya_min v4 x50))), (7, .int (ya_min v4 x50)), (0, .ref (X.2.1 + 83)), (1, .int v1), (2, .int v2), (5, .int v5), (6, .int v6)] (by decide) rfl dX12_takes__113 ?_
        refine ya_iinc (v6 + 1) rfl 6 rfl [(6, .int (v6 + 1)), (4, .int (v4 - (ya_min v4 x50))), (7, .int (ya_min v4 x50)), (0, .ref (X.2.1 + 83)), (1, .int v1), (2, .int v2), (5, .int v5)] (by decide) rfl dX12_takes__115 ?_
        refine ya_goto 20 (by decide) dX12_takes__118 ?_
        refine ya_sub [(0, .ref (X.2.1 + 83)), (1, .int v1), (2, .int v2), (4, .int (v4 - (ya_min v4 x50))), (5, .int v5), (6, .int (v6 + 1))] [3, 4, 5, 1, 6, 0] rfl ?_
        exact ih _ _ _ h
set_option maxRecDepth 20000 in
theorem w_X12_takes__L6 {X : ya_X} {G : ya_G} {v1 : Int32} {v2 : Int32} {rr : ya_D} (hG : ya_Bk ya_sh ya_ln G 0) : ∀ (n : Nat) (v4 : Int32) (v5 : Int32) (d : ya_D), f_X12_takes__L6 v1 v2 n v4 v5 d = some rr → ya_E X Y_X12_takes_ (ya_M X (none, G, rr) 0 0) 6 [(0, .ref (X.2.1 + 83)), (1, .int v1), (2, .int v2), (4, .int v4), (5, .int v5)] [] G d 0 0 := by
  intro n
  induction n with
  | zero => intro v4 v5 d h; cases h
  | succ n ih =>
    intro v4 v5 d h
    rw [f_X12_takes__L6] at h
    refine ya_iload 4 rfl dX12_takes__6 ?_
    refine ya_aload_n 0 rfl dX12_takes__8 ?_
    refine ya_getR fo_X12_9 (hG.o0 83 rfl) (hG.lt0 83 (by decide)) (hG.l0 82 rfl) dX12_takes__9 ?_
    refine ya_iconst 2 (by decide) dX12_takes__12 ?_
    refine ya_iald (hG.s0 84 rfl) (hG.lt0 84 (by decide)) dX12_takes__13 h (fun x13 h => ?_)
    refine ya_icmp_ge 127 (by decide) dX12_takes__14 (fun c => ?_) (fun c => ?_)
    · replace h := ya_itet h c
      cases h
      exact ya_vret rfl rfl rfl rfl rfl (Nat.le_refl _) dX12_takes__127
    · replace h := ya_itef h c
      refine ya_iconst 0 (by decide) dX12_takes__17 ?_
      refine ya_istore [(6, .int 0), (0, .ref (X.2.1 + 83)), (1, .int v1), (2, .int v2), (4, .int v4), (5, .int v5)] (by decide) rfl dX12_takes__18 ?_
      refine ya_sub [(0, .ref (X.2.1 + 83)), (1, .int v1), (2, .int v2), (4, .int v4), (5, .int v5), (6, .int 0)] [1, 2, 3, 4, 5, 0] rfl ?_
      refine w_X12_takes__L20 hG (fun v4_121 d_121 h => ?_) ya_F _ _ _ h
      refine ya_iinc (v5 + 1) rfl 4 rfl [(5, .int (v5 + 1)), (0, .ref (X.2.1 + 83)), (1, .int v1), (2, .int v2), (4, .int v4_121)] (by decide) rfl dX12_takes__121 ?_
      refine ya_goto 6 (by decide) dX12_takes__124 ?_
      refine ya_sub [(0, .ref (X.2.1 + 83)), (1, .int v1), (2, .int v2), (4, .int v4_121), (5, .int (v5 + 1))] [1, 2, 3, 4, 0] rfl ?_
      exact ih _ _ _ h
set_option maxRecDepth 20000 in
theorem c_X12_takes_ {X : ya_X} {G : ya_G} {v1 : Int32} {v2 : Int32} {v3 : Int32} {d : ya_D} {rr : ya_D} (hG : ya_Bk ya_sh ya_ln G 0) (h : f_X12_takes_ v1 v2 v3 d = some rr) : ya_Ct X yX12_takes_ Y_X12_takes_ [.ref (X.2.1 + 83), .int v1, .int v2, .int v3] G d (none, G, rr) := by
  refine ya_ct (by decide +kernel) rfl rfl (Nat.le_of_ble_eq_true rfl) ?_
  unfold f_X12_takes_ at h
  show ya_E X Y_X12_takes_ (ya_M X (none, G, rr) 0 0) 0 [(0, .ref (X.2.1 + 83)), (1, .int v1), (2, .int v2), (3, .int v3)] [] G d 0 0
  refine ya_iload_n 3 rfl dX12_takes__0 ?_
  refine ya_istore [(4, .int v3), (0, .ref (X.2.1 + 83)), (1, .int v1), (2, .int v2), (3, .int v3)] (by decide) rfl dX12_takes__1 ?_
  refine ya_iconst 0 (by decide) dX12_takes__3 ?_
  refine ya_istore [(5, .int 0), (4, .int v3), (0, .ref (X.2.1 + 83)), (1, .int v1), (2, .int v2), (3, .int v3)] (by decide) rfl dX12_takes__4 ?_
  refine ya_sub [(0, .ref (X.2.1 + 83)), (1, .int v1), (2, .int v2), (4, .int v3), (5, .int 0)] [2, 3, 4, 1, 0] rfl ?_
  refine w_X12_takes__L6 hG  ya_F _ _ _ h
set_option maxRecDepth 20000 in
theorem w_X12_standIn_L6 {X : ya_X} {G : ya_G} {v1 : Int32} {v2 : Int32} {v3 : Int32} {rr : (Int32 × ya_D)} {e49 : Int32 → ya_D → Option (Int32 × ya_D)} (hG : ya_Bk ya_sh ya_ln G 0) (he49 : ∀ (v4 : Int32) (d : ya_D), e49 v4 d = some rr → ya_E X Y_X12_standIn (ya_M X (some (.int rr.1), G, rr.2) 0 0) 49 [(0, .ref (X.2.1 + 83)), (3, .int v3), (4, .int v4)] [] G d 0 0) : ∀ (n : Nat) (v4 : Int32) (v5 : Int32) (d : ya_D), f_X12_standIn_L6 v1 v2 v3 e49 n v4 v5 d = some rr → ya_E X Y_X12_standIn (ya_M X (some (.int rr.1), G, rr.2) 0 0) 6 [(0, .ref (X.2.1 + 83)), (1, .int v1), (2, .int v2), (3, .int v3), (4, .int v4), (5, .int v5)] [] G d 0 0 := by
  intro n
  induction n with
  | zero => intro v4 v5 d h; cases h
  | succ n ih =>
    intro v4 v5 d h
    rw [f_X12_standIn_L6] at h
    refine ya_iload 5 rfl dX12_standIn_6 ?_
    refine ya_aload_n 0 rfl dX12_standIn_8 ?_
    refine ya_getR fo_X12_9 (hG.o0 83 rfl) (hG.lt0 83 (by decide)) (hG.l0 82 rfl) dX12_standIn_9 ?_
    refine ya_iconst 3 (by decide) dX12_standIn_12 ?_
    refine ya_iald (hG.s0 84 rfl) (hG.lt0 84 (by decide)) dX12_standIn_13 h (fun x13 h => ?_)
    refine ya_icmp_ge 49 (by decide) dX12_standIn_14 (fun c => ?_) (fun c => ?_)
    · replace h := ya_itet h c
      refine ya_sub [(0, .ref (X.2.1 + 83)), (3, .int v3), (4, .int v4)] [0, 3, 4] rfl ?_
      exact he49 _ _ h
    · replace h := ya_itef h c
      refine ya_aload_n 0 rfl dX12_standIn_17 ?_
      refine ya_iload 5 rfl dX12_standIn_18 ?_
      refine ya_iload_n 1 rfl dX12_standIn_20 ?_
      refine ya_iload_n 2 rfl dX12_standIn_21 ?_
      obtain ⟨x22, e22, h⟩ := ya_ob h
      refine ya_callVi (S := []) (c_X12_wantsOn hG e22) m_X12_wantsOn ⟨rfl, rfl⟩ ml_X12_266 rfl ⟨Nat.le_of_ble_eq_true rfl, Nat.le_of_ble_eq_true rfl⟩ (Nat.le_of_ble_eq_true rfl) (hG.lt0 83 (by decide)) (hG.o0 83 rfl) (by decide) rfl rfl ⟨Nat.le_refl _, Nat.le_refl _⟩ dX12_standIn_22 rfl ?_
      refine ya_j2_s h (fun v4_43 d_43 => ya_E X Y_X12_standIn (ya_M X (some (.int rr.1), G, rr.2) 0 0) 43 [(0, .ref (X.2.1 + 83)), (1, .int v1), (2, .int v2), (3, .int v3), (4, .int v4_43), (5, .int v5)] [] G d_43 0 0) (fun v4_43 d_43 h => ?_) (fun k43 hk43 h => ?_)
      · refine ya_iinc (v5 + 1) rfl 5 rfl [(5, .int (v5 + 1)), (0, .ref (X.2.1 + 83)), (1, .int v1), (2, .int v2), (3, .int v3), (4, .int v4_43)] (by decide) rfl dX12_standIn_43 ?_
        refine ya_goto 6 (by decide) dX12_standIn_46 ?_
        refine ya_sub [(0, .ref (X.2.1 + 83)), (1, .int v1), (2, .int v2), (3, .int v3), (4, .int v4_43), (5, .int (v5 + 1))] [1, 2, 3, 4, 5, 0] rfl ?_
        exact ih _ _ _ h
      · refine ya_ifne 31 (by decide) dX12_standIn_25 (fun c => ?_) (fun c => ?_)
        · replace h := ya_itef h c
          refine ya_aload_n 0 rfl dX12_standIn_31 ?_
          refine ya_getR fo_X12_67 (hG.o0 83 rfl) (hG.lt0 83 (by decide)) (hG.l0 99 rfl) dX12_standIn_32 ?_
          refine ya_iload 4 rfl dX12_standIn_35 ?_
          refine ya_iload 5 rfl dX12_standIn_37 ?_
          refine ya_iast (hG.s0 101 rfl) (hG.lt0 101 (by decide)) dX12_standIn_39 h (fun d39 h => ?_)
          refine ya_iinc (v4 + 1) rfl 4 rfl [(4, .int (v4 + 1)), (0, .ref (X.2.1 + 83)), (1, .int v1), (2, .int v2), (3, .int v3), (5, .int v5)] (by decide) rfl dX12_standIn_40 ?_
          refine ya_sub [(0, .ref (X.2.1 + 83)), (1, .int v1), (2, .int v2), (3, .int v3), (4, .int (v4 + 1)), (5, .int v5)] [1, 2, 3, 4, 0, 5] rfl ?_
          exact hk43 _ _ h
        · replace h := ya_itet h c
          refine ya_goto 43 (by decide) dX12_standIn_28 ?_
          exact hk43 _ _ h
set_option maxRecDepth 20000 in
theorem w_X12_standIn_L55 {X : ya_X} {G : ya_G} {v3 : Int32} {v4 : Int32} {rr : (Int32 × ya_D)} (hG : ya_Bk ya_sh ya_ln G 0) : ∀ (n : Nat) (v5 : Int32) (d : ya_D), f_X12_standIn_L55 v3 v4 n v5 d = some rr → ya_E X Y_X12_standIn (ya_M X (some (.int rr.1), G, rr.2) 0 0) 55 [(0, .ref (X.2.1 + 83)), (3, .int v3), (4, .int v4), (5, .int v5)] [] G d 0 0 := by
  intro n
  induction n with
  | zero => intro v5 d h; cases h
  | succ n ih =>
    intro v5 d h
    rw [f_X12_standIn_L55] at h
    refine ya_iload 3 rfl dX12_standIn_55 ?_
    refine ya_ifle 112 (by decide) dX12_standIn_57 (fun c => ?_) (fun c => ?_)
    · replace h := ya_itet h c
      refine ya_iload 2 rfl dX12_standIn_112 ?_
      cases h
      exact ya_iret rfl rfl rfl rfl rfl (Nat.le_refl _) dX12_standIn_114
    · replace h := ya_itef h c
      refine ya_iload_n 1 rfl dX12_standIn_60 ?_
      refine ya_ifeq 112 (by decide) dX12_standIn_61 (fun c => ?_) (fun c => ?_)
      · replace h := ya_itet h c
        refine ya_iload 2 rfl dX12_standIn_112 ?_
        cases h
        exact ya_iret rfl rfl rfl rfl rfl (Nat.le_refl _) dX12_standIn_114
      · replace h := ya_itef h c
        refine ya_aload_n 0 rfl dX12_standIn_64 ?_
        refine ya_iload 3 rfl dX12_standIn_65 ?_
        refine ya_iconst 1 (by decide) dX12_standIn_67 ?_
        refine ya_iadd dX12_standIn_68 ?_
        obtain ⟨x69, d69, e69, h⟩ := ya_ob2 h
        refine ya_callVi (S := []) (c_X12_draw hG e69) m_X12_draw ⟨rfl, rfl⟩ ml_X12_282 rfl ⟨Nat.le_of_ble_eq_true rfl, Nat.le_of_ble_eq_true rfl⟩ (Nat.le_of_ble_eq_true rfl) (hG.lt0 83 (by decide)) (hG.o0 83 rfl) (by decide) rfl rfl ⟨Nat.le_refl _, Nat.le_refl _⟩ dX12_standIn_69 rfl ?_
        refine ya_istore [(6, .int x69), (0, .ref (X.2.1 + 83)), (3, .int v3), (4, .int v4), (5, .int v5)] (by decide) rfl dX12_standIn_72 ?_
        refine ya_aload_n 1 rfl dX12_standIn_74 ?_
        refine ya_getR fo_X12_67 (hG.o0 83 rfl) (hG.lt0 83 (by decide)) (hG.l0 99 rfl) dX12_standIn_75 ?_
        refine ya_iload 4 rfl dX12_standIn_78 ?_
        refine ya_iald (hG.s0 101 rfl) (hG.lt0 101 (by decide)) dX12_standIn_80 h (fun x80 h => ?_)
        refine ya_istore [(7, .int x80), (6, .int x69), (0, .ref (X.2.1 + 83)), (3, .int v3), (4, .int v4), (5, .int v5)] (by decide) rfl dX12_standIn_81 ?_
        refine ya_aload_n 2 rfl dX12_standIn_83 ?_
        refine ya_getR fo_X12_67 (hG.o0 83 rfl) (hG.lt0 83 (by decide)) (hG.l0 99 rfl) dX12_standIn_84 ?_
        refine ya_iload 5 rfl dX12_standIn_87 ?_
        refine ya_aload_n 2 rfl dX12_standIn_89 ?_
        refine ya_getR fo_X12_67 (hG.o0 83 rfl) (hG.lt0 83 (by decide)) (hG.l0 99 rfl) dX12_standIn_90 ?_
        refine ya_iload 1 rfl dX12_standIn_93 ?_
        refine ya_iald (hG.s0 101 rfl) (hG.lt0 101 (by decide)) dX12_standIn_95 h (fun x95 h => ?_)
        refine ya_iast (hG.s0 101 rfl) (hG.lt0 101 (by decide)) dX12_standIn_96 h (fun d96 h => ?_)
        refine ya_aload_n 2 rfl dX12_standIn_97 ?_
        refine ya_getR fo_X12_67 (hG.o0 83 rfl) (hG.lt0 83 (by decide)) (hG.l0 99 rfl) dX12_standIn_98 ?_
        refine ya_iload 1 rfl dX12_standIn_101 ?_
        refine ya_iload 0 rfl dX12_standIn_103 ?_
        refine ya_iast (hG.s0 101 rfl) (hG.lt0 101 (by decide)) dX12_standIn_105 h (fun d105 h => ?_)
        refine ya_iinc (v5 + (-1)) (congrArg (fun z => v5 + z) (by decide : Int32.ofInt (-1) = (-1))) 5 rfl [(5, .int (v5 + (-1))), (7, .int x80), (6, .int x69), (0, .ref (X.2.1 + 83)), (3, .int v3), (4, .int v4)] (by decide) rfl dX12_standIn_106 ?_
        refine ya_goto 55 (by decide) dX12_standIn_109 ?_
        refine ya_sub [(0, .ref (X.2.1 + 83)), (3, .int v3), (4, .int v4), (5, .int (v5 + (-1)))] [3, 4, 5, 0] rfl ?_
        exact ih _ _ h
set_option maxRecDepth 20000 in
theorem c_X12_standIn {X : ya_X} {G : ya_G} {v1 : Int32} {v2 : Int32} {v3 : Int32} {d : ya_D} {rr : (Int32 × ya_D)} (hG : ya_Bk ya_sh ya_ln G 0) (h : f_X12_standIn v1 v2 v3 d = some rr) : ya_Ct X yX12_standIn Y_X12_standIn [.ref (X.2.1 + 83), .int v1, .int v2, .int v3] G d (some (.int rr.1), G, rr.2) := by
  refine ya_ct (by decide +kernel) rfl rfl (Nat.le_of_ble_eq_true rfl) ?_
  unfold f_X12_standIn at h
  show ya_E X Y_X12_standIn (ya_M X (some (.int rr.1), G, rr.2) 0 0) 0 [(0, .ref (X.2.1 + 83)), (1, .int v1), (2, .int v2), (3, .int v3)] [] G d 0 0
  refine ya_iconst 0 (by decide) dX12_standIn_0 ?_
  refine ya_istore [(4, .int 0), (0, .ref (X.2.1 + 83)), (1, .int v1), (2, .int v2), (3, .int v3)] (by decide) rfl dX12_standIn_1 ?_
  refine ya_iconst 0 (by decide) dX12_standIn_3 ?_
  refine ya_istore [(5, .int 0), (4, .int 0), (0, .ref (X.2.1 + 83)), (1, .int v1), (2, .int v2), (3, .int v3)] (by decide) rfl dX12_standIn_4 ?_
  refine ya_sub [(0, .ref (X.2.1 + 83)), (1, .int v1), (2, .int v2), (3, .int v3), (4, .int 0), (5, .int 0)] [2, 3, 4, 5, 1, 0] rfl ?_
  refine w_X12_standIn_L6 hG (fun v4_49 d_49 h => ?_) ya_F _ _ _ h
  refine ya_iload 2 rfl dX12_standIn_49 ?_
  refine ya_iconst 1 (by decide) dX12_standIn_51 ?_
  refine ya_isub dX12_standIn_52 ?_
  refine ya_istore [(5, .int (v4_49 - 1)), (0, .ref (X.2.1 + 83)), (3, .int v3), (4, .int v4_49)] (by decide) rfl dX12_standIn_53 ?_
  refine ya_sub [(0, .ref (X.2.1 + 83)), (3, .int v3), (4, .int v4_49), (5, .int (v4_49 - 1))] [1, 2, 3, 0] rfl ?_
  refine w_X12_standIn_L55 hG  ya_F _ _ h
set_option maxRecDepth 20000 in
theorem w_X12_sellsOn_L5 {X : ya_X} {G : ya_G} {v1 : Int32} {v2 : Int32} {d : ya_D} {rr : ya_D} {e46 : Int32 → Option ya_D} (hG : ya_Bk ya_sh ya_ln G 0) (he46 : ∀ (v3 : Int32), e46 v3 = some rr → ya_E X Y_X12_sellsOn (ya_M X (none, G, rr) 0 0) 46 [(0, .ref (X.2.1 + 83)), (1, .int v1), (2, .int v2), (3, .int v3)] [] G d 0 0) : ∀ (n : Nat) (v3 : Int32) (v4 : Int32), f_X12_sellsOn_L5 v1 v2 d e46 n v3 v4 = some rr → ya_E X Y_X12_sellsOn (ya_M X (none, G, rr) 0 0) 5 [(0, .ref (X.2.1 + 83)), (1, .int v1), (2, .int v2), (3, .int v3), (4, .int v4)] [] G d 0 0 := by
  intro n
  induction n with
  | zero => intro v3 v4 h; cases h
  | succ n ih =>
    intro v3 v4 h
    rw [f_X12_sellsOn_L5] at h
    refine ya_iload 4 rfl dX12_sellsOn_5 ?_
    refine ya_aload_n 0 rfl dX12_sellsOn_7 ?_
    refine ya_getR fo_X12_9 (hG.o0 83 rfl) (hG.lt0 83 (by decide)) (hG.l0 82 rfl) dX12_sellsOn_8 ?_
    refine ya_iconst 2 (by decide) dX12_sellsOn_11 ?_
    refine ya_iald (hG.s0 84 rfl) (hG.lt0 84 (by decide)) dX12_sellsOn_12 h (fun x12 h => ?_)
    refine ya_icmp_ge 46 (by decide) dX12_sellsOn_13 (fun c => ?_) (fun c => ?_)
    · replace h := ya_itet h c
      refine ya_sub [(0, .ref (X.2.1 + 83)), (1, .int v1), (2, .int v2), (3, .int v3)] [0, 1, 2, 3] rfl ?_
      exact he46 _ h
    · replace h := ya_itef h c
      refine ya_iload_n 3 rfl dX12_sellsOn_16 ?_
      refine ya_aload_n 0 rfl dX12_sellsOn_17 ?_
      refine ya_iload 4 rfl dX12_sellsOn_18 ?_
      refine ya_iload_n 1 rfl dX12_sellsOn_20 ?_
      refine ya_iload_n 2 rfl dX12_sellsOn_21 ?_
      obtain ⟨x22, e22, h⟩ := ya_ob h
      refine ya_callVi (S := [.int v3]) (c_X12_offers hG e22) m_X12_offers ⟨rfl, rfl⟩ ml_X12_279 rfl ⟨Nat.le_of_ble_eq_true rfl, Nat.le_of_ble_eq_true rfl⟩ (Nat.le_of_ble_eq_true rfl) (hG.lt0 83 (by decide)) (hG.o0 83 rfl) (by decide) rfl rfl ⟨Nat.le_refl _, Nat.le_refl _⟩ dX12_sellsOn_22 rfl ?_
      refine ya_j1_s h (fun t0_38 => ya_E X Y_X12_sellsOn (ya_M X (none, G, rr) 0 0) 38 [(0, .ref (X.2.1 + 83)), (1, .int v1), (2, .int v2), (4, .int v4)] [.int t0_38, .int v3] G d 0 0) (fun t0_38 h => ?_) (fun k38 hk38 h => ?_)
      · refine ya_iadd dX12_sellsOn_38 ?_
        refine ya_istore_n [(3, .int (v3 + t0_38)), (0, .ref (X.2.1 + 83)), (1, .int v1), (2, .int v2), (4, .int v4)] (by decide) rfl dX12_sellsOn_39 ?_
        refine ya_iinc (v4 + 1) rfl 4 rfl [(4, .int (v4 + 1)), (3, .int (v3 + t0_38)), (0, .ref (X.2.1 + 83)), (1, .int v1), (2, .int v2)] (by decide) rfl dX12_sellsOn_40 ?_
        refine ya_goto 5 (by decide) dX12_sellsOn_43 ?_
        refine ya_sub [(0, .ref (X.2.1 + 83)), (1, .int v1), (2, .int v2), (3, .int (v3 + t0_38)), (4, .int (v4 + 1))] [2, 3, 4, 1, 0] rfl ?_
        exact ih _ _ h
      · refine ya_ifeq 37 (by decide) dX12_sellsOn_25 (fun c => ?_) (fun c => ?_)
        · replace h := ya_itet h c
          refine ya_iconst 0 (by decide) dX12_sellsOn_37 ?_
          refine ya_sub [(0, .ref (X.2.1 + 83)), (1, .int v1), (2, .int v2), (4, .int v4)] [0, 1, 2, 4] rfl ?_
          exact hk38 _ h
        · replace h := ya_itef h c
          refine ya_aload_n 0 rfl dX12_sellsOn_28 ?_
          refine ya_iload 4 rfl dX12_sellsOn_29 ?_
          obtain ⟨x31, e31, h⟩ := ya_ob h
          refine ya_callVi (S := [.int v3]) (c_X12_stockOf hG e31) m_X12_stockOf ⟨rfl, rfl⟩ ml_X12_285 rfl ⟨Nat.le_of_ble_eq_true rfl, Nat.le_of_ble_eq_true rfl⟩ (Nat.le_of_ble_eq_true rfl) (hG.lt0 83 (by decide)) (hG.o0 83 rfl) (by decide) rfl rfl ⟨Nat.le_refl _, Nat.le_refl _⟩ dX12_sellsOn_31 rfl ?_
          refine ya_goto 38 (by decide) dX12_sellsOn_34 ?_
          refine ya_sub [(0, .ref (X.2.1 + 83)), (1, .int v1), (2, .int v2), (4, .int v4)] [0, 1, 2, 4] rfl ?_
          exact hk38 _ h
set_option maxRecDepth 20000 in
theorem w_X12_sellsOn_L125 {X : ya_X} {G : ya_G} {v1 : Int32} {v2 : Int32} {v3 : Int32} {v6 : Int32} {rr : ya_D} {e205 : Int32 → ya_D → Option ya_D} (hG : ya_Bk ya_sh ya_ln G 0) (he205 : ∀ (v7 : Int32) (d : ya_D), e205 v7 d = some rr → ya_E X Y_X12_sellsOn (ya_M X (none, G, rr) 0 0) 205 [(0, .ref (X.2.1 + 83)), (1, .int v1), (2, .int v2), (3, .int v3), (7, .int v7)] [] G d 0 0) : ∀ (n : Nat) (v7 : Int32) (v8 : Int32) (d : ya_D), f_X12_sellsOn_L125 v1 v2 v3 v6 e205 n v7 v8 d = some rr → ya_E X Y_X12_sellsOn (ya_M X (none, G, rr) 0 0) 125 [(0, .ref (X.2.1 + 83)), (1, .int v1), (2, .int v2), (3, .int v3), (6, .int v6), (7, .int v7), (8, .int v8)] [] G d 0 0 := by
  intro n
  induction n with
  | zero => intro v7 v8 d h; cases h
  | succ n ih =>
    intro v7 v8 d h
    rw [f_X12_sellsOn_L125] at h
    refine ya_iload 6 rfl dX12_sellsOn_125 ?_
    refine ya_iload 4 rfl dX12_sellsOn_127 ?_
    refine ya_icmp_ge 205 (by decide) dX12_sellsOn_129 (fun c => ?_) (fun c => ?_)
    · replace h := ya_itet h c
      refine ya_sub [(0, .ref (X.2.1 + 83)), (1, .int v1), (2, .int v2), (3, .int v3), (7, .int v7)] [0, 1, 2, 3, 5] rfl ?_
      exact he205 _ _ h
    · replace h := ya_itef h c
      refine ya_iload 5 rfl dX12_sellsOn_132 ?_
      refine ya_aload_n 0 rfl dX12_sellsOn_134 ?_
      refine ya_aload_n 0 rfl dX12_sellsOn_135 ?_
      refine ya_getR fo_X12_67 (hG.o0 83 rfl) (hG.lt0 83 (by decide)) (hG.l0 99 rfl) dX12_sellsOn_136 ?_
      refine ya_iload 6 rfl dX12_sellsOn_139 ?_
      refine ya_iald (hG.s0 101 rfl) (hG.lt0 101 (by decide)) dX12_sellsOn_141 h (fun x141 h => ?_)
      refine ya_iconst 1 (by decide) dX12_sellsOn_142 ?_
      obtain ⟨x143, e143, h⟩ := ya_ob h
      refine ya_callVi (S := [.int v7]) (c_X12_of hG e143) m_X12_of ⟨rfl, rfl⟩ ml_X12_260 rfl ⟨Nat.le_of_ble_eq_true rfl, Nat.le_of_ble_eq_true rfl⟩ (Nat.le_of_ble_eq_true rfl) (hG.lt0 83 (by decide)) (hG.o0 83 rfl) (by decide) rfl rfl ⟨Nat.le_refl _, Nat.le_refl _⟩ dX12_sellsOn_143 rfl ?_
      refine ya_mmin ml_X12_142 wm_min1 wm_min2 wm_min3 (by decide) (Nat.le_of_ble_eq_true rfl) ⟨Nat.le_refl _, Nat.le_refl _⟩ dX12_sellsOn_146 ?_
      refine ya_istore [(9, .int (ya_min v7 x143)), (0, .ref (X.2.1 + 83)), (1, .int v1), (2, .int v2), (3, .int v3), (6, .int v6), (7, .int v7), (8, .int v8)] (by decide) rfl dX12_sellsOn_149 ?_
      refine ya_aload_n 1 rfl dX12_sellsOn_151 ?_
      refine ya_getR fo_X12_61 (hG.o0 83 rfl) (hG.lt0 83 (by decide)) (hG.l0 97 rfl) dX12_sellsOn_152 ?_
      refine ya_aload_n 1 rfl dX12_sellsOn_155 ?_
      refine ya_getR fo_X12_67 (hG.o0 83 rfl) (hG.lt0 83 (by decide)) (hG.l0 99 rfl) dX12_sellsOn_156 ?_
      refine ya_iload 7 rfl dX12_sellsOn_159 ?_
      refine ya_iald (hG.s0 101 rfl) (hG.lt0 101 (by decide)) dX12_sellsOn_161 h (fun x161 h => ?_)
      refine ya_dup2 rfl rfl dX12_sellsOn_162 ?_
      refine ya_iald (hG.s0 99 rfl) (hG.lt0 99 (by decide)) dX12_sellsOn_163 h (fun x163 h => ?_)
      refine ya_iload 0 rfl dX12_sellsOn_164 ?_
      refine ya_iadd dX12_sellsOn_166 ?_
      refine ya_iast (hG.s0 99 rfl) (hG.lt0 99 (by decide)) dX12_sellsOn_167 h (fun d167 h => ?_)
      refine ya_aload_n 1 rfl dX12_sellsOn_168 ?_
      refine ya_getR fo_X12_58 (hG.o0 83 rfl) (hG.lt0 83 (by decide)) (hG.l0 96 rfl) dX12_sellsOn_169 ?_
      refine ya_aload_n 1 rfl dX12_sellsOn_172 ?_
      refine ya_getR fo_X12_67 (hG.o0 83 rfl) (hG.lt0 83 (by decide)) (hG.l0 99 rfl) dX12_sellsOn_173 ?_
      refine ya_iload 7 rfl dX12_sellsOn_176 ?_
      refine ya_iald (hG.s0 101 rfl) (hG.lt0 101 (by decide)) dX12_sellsOn_178 h (fun x178 h => ?_)
      refine ya_dup2 rfl rfl dX12_sellsOn_179 ?_
      refine ya_iald (hG.s0 98 rfl) (hG.lt0 98 (by decide)) dX12_sellsOn_180 h (fun x180 h => ?_)
      refine ya_iload 0 rfl dX12_sellsOn_181 ?_
      refine ya_aload_n 1 rfl dX12_sellsOn_183 ?_
      refine ya_iload_n 2 rfl dX12_sellsOn_184 ?_
      refine ya_iload_n 3 rfl dX12_sellsOn_185 ?_
      obtain ⟨x186, e186, h⟩ := ya_ob h
      refine ya_callVi (S := [.int (ya_min v7 x143), .int x180, .int x178, .ref (X.2.1 + 98)]) (c_X12_priceOf hG e186) m_X12_priceOf ⟨rfl, rfl⟩ ml_X12_263 rfl ⟨Nat.le_of_ble_eq_true rfl, Nat.le_of_ble_eq_true rfl⟩ (Nat.le_of_ble_eq_true rfl) (hG.lt0 83 (by decide)) (hG.o0 83 rfl) (by decide) rfl rfl ⟨Nat.le_refl _, Nat.le_refl _⟩ dX12_sellsOn_186 rfl ?_
      refine ya_imul dX12_sellsOn_189 ?_
      refine ya_iadd dX12_sellsOn_190 ?_
      refine ya_iast (hG.s0 98 rfl) (hG.lt0 98 (by decide)) dX12_sellsOn_191 h (fun d191 h => ?_)
      refine ya_iload 6 rfl dX12_sellsOn_192 ?_
      refine ya_iload 0 rfl dX12_sellsOn_194 ?_
      refine ya_isub dX12_sellsOn_196 ?_
      refine ya_istore [(7, .int (v7 - (ya_min v7 x143))), (9, .int (ya_min v7 x143)), (0, .ref (X.2.1 + 83)), (1, .int v1), (2, .int v2), (3, .int v3), (6, .int v6), (8, .int v8)] (by decide) rfl dX12_sellsOn_197 ?_
      refine ya_iinc (v8 + 1) rfl 7 rfl [(8, .int (v8 + 1)), (7, .int (v7 - (ya_min v7 x143))), (9, .int (ya_min v7 x143)), (0, .ref (X.2.1 + 83)), (1, .int v1), (2, .int v2), (3, .int v3), (6, .int v6)] (by decide) rfl dX12_sellsOn_199 ?_
      refine ya_goto 125 (by decide) dX12_sellsOn_202 ?_
      refine ya_sub [(0, .ref (X.2.1 + 83)), (1, .int v1), (2, .int v2), (3, .int v3), (6, .int v6), (7, .int (v7 - (ya_min v7 x143))), (8, .int (v8 + 1))] [3, 4, 5, 6, 7, 1, 0] rfl ?_
      exact ih _ _ _ h
set_option maxRecDepth 20000 in
theorem c_X12_sellsOn {X : ya_X} {G : ya_G} {v1 : Int32} {v2 : Int32} {d : ya_D} {rr : ya_D} (hG : ya_Bk ya_sh ya_ln G 0) (h : f_X12_sellsOn v1 v2 d = some rr) : ya_Ct X yX12_sellsOn Y_X12_sellsOn [.ref (X.2.1 + 83), .int v1, .int v2] G d (none, G, rr) := by
  refine ya_ct (by decide +kernel) rfl rfl (Nat.le_of_ble_eq_true rfl) ?_
  unfold f_X12_sellsOn at h
  show ya_E X Y_X12_sellsOn (ya_M X (none, G, rr) 0 0) 0 [(0, .ref (X.2.1 + 83)), (1, .int v1), (2, .int v2)] [] G d 0 0
  refine ya_iconst 0 (by decide) dX12_sellsOn_0 ?_
  refine ya_istore_n [(3, .int 0), (0, .ref (X.2.1 + 83)), (1, .int v1), (2, .int v2)] (by decide) rfl dX12_sellsOn_1 ?_
  refine ya_iconst 0 (by decide) dX12_sellsOn_2 ?_
  refine ya_istore [(4, .int 0), (3, .int 0), (0, .ref (X.2.1 + 83)), (1, .int v1), (2, .int v2)] (by decide) rfl dX12_sellsOn_3 ?_
  refine ya_sub [(0, .ref (X.2.1 + 83)), (1, .int v1), (2, .int v2), (3, .int 0), (4, .int 0)] [2, 3, 4, 1, 0] rfl ?_
  refine w_X12_sellsOn_L5 hG (fun v3_46 h => ?_) ya_F _ _ h
  refine ya_aload_n 0 rfl dX12_sellsOn_46 ?_
  refine ya_iload_n 1 rfl dX12_sellsOn_47 ?_
  refine ya_iload_n 2 rfl dX12_sellsOn_48 ?_
  obtain ⟨x49, e49, h⟩ := ya_ob h
  refine ya_callVi (S := []) (c_X12_askedOf hG e49) m_X12_askedOf ⟨rfl, rfl⟩ ml_X12_288 rfl ⟨Nat.le_of_ble_eq_true rfl, Nat.le_of_ble_eq_true rfl⟩ (Nat.le_of_ble_eq_true rfl) (hG.lt0 83 (by decide)) (hG.o0 83 rfl) (by decide) rfl rfl ⟨Nat.le_refl _, Nat.le_refl _⟩ dX12_sellsOn_49 rfl ?_
  refine ya_istore [(4, .int x49), (0, .ref (X.2.1 + 83)), (1, .int v1), (2, .int v2), (3, .int v3_46)] (by decide) rfl dX12_sellsOn_52 ?_
  refine ya_aload_n 1 rfl dX12_sellsOn_54 ?_
  refine ya_getR fo_X12_37 (hG.o0 83 rfl) (hG.lt0 83 (by decide)) (hG.l0 89 rfl) dX12_sellsOn_55 ?_
  refine ya_iload_n 2 rfl dX12_sellsOn_58 ?_
  refine ya_iload_n 3 rfl dX12_sellsOn_59 ?_
  obtain ⟨x60, e60, h⟩ := ya_ob h
  refine ya_callSi (S := [.ref (X.2.1 + 91)]) (c_X12_at hG e60) m_X12_at ⟨rfl, rfl⟩ ml_X12_105 rfl ⟨Nat.le_of_ble_eq_true rfl, Nat.le_of_ble_eq_true rfl⟩ (Nat.le_of_ble_eq_true rfl) ⟨Nat.le_refl _, Nat.le_refl _⟩ dX12_sellsOn_60 rfl ?_
  refine ya_iload_n 4 rfl dX12_sellsOn_63 ?_
  refine ya_iast (hG.s0 91 rfl) (hG.lt0 91 (by decide)) dX12_sellsOn_64 h (fun d64 h => ?_)
  refine ya_aload_n 1 rfl dX12_sellsOn_65 ?_
  refine ya_getR fo_X12_40 (hG.o0 83 rfl) (hG.lt0 83 (by decide)) (hG.l0 90 rfl) dX12_sellsOn_66 ?_
  refine ya_iload_n 2 rfl dX12_sellsOn_69 ?_
  refine ya_iload_n 3 rfl dX12_sellsOn_70 ?_
  obtain ⟨x71, e71, h⟩ := ya_ob h
  refine ya_callSi (S := [.ref (X.2.1 + 92)]) (c_X12_at hG e71) m_X12_at ⟨rfl, rfl⟩ ml_X12_105 rfl ⟨Nat.le_of_ble_eq_true rfl, Nat.le_of_ble_eq_true rfl⟩ (Nat.le_of_ble_eq_true rfl) ⟨Nat.le_refl _, Nat.le_refl _⟩ dX12_sellsOn_71 rfl ?_
  refine ya_iload 0 rfl dX12_sellsOn_74 ?_
  refine ya_iast (hG.s0 92 rfl) (hG.lt0 92 (by decide)) dX12_sellsOn_76 h (fun d76 h => ?_)
  refine ya_iload 0 rfl dX12_sellsOn_77 ?_
  refine ya_iload_n 4 rfl dX12_sellsOn_79 ?_
  refine ya_j1_s h (fun t0_88 => ya_E X Y_X12_sellsOn (ya_M X (none, G, rr) 0 0) 88 [(0, .ref (X.2.1 + 83)), (1, .int v1), (2, .int v2), (3, .int v3_46)] [.int t0_88] G d76 0 0) (fun t0_88 h => ?_) (fun k88 hk88 h => ?_)
  · refine ya_istore [(5, .int t0_88), (0, .ref (X.2.1 + 83)), (1, .int v1), (2, .int v2), (3, .int v3_46)] (by decide) rfl dX12_sellsOn_88 ?_
    refine ya_aload_n 1 rfl dX12_sellsOn_90 ?_
    refine ya_dup rfl dX12_sellsOn_91 ?_
    refine ya_getI fo_X12_291 (hG.o0 83 rfl) (hG.lt0 83 (by decide)) dX12_sellsOn_92 ?_
    refine ya_iload 0 rfl dX12_sellsOn_95 ?_
    refine ya_j1_s h (fun t0_105 => ya_E X Y_X12_sellsOn (ya_M X (none, G, rr) 0 0) 105 [(0, .ref (X.2.1 + 83)), (1, .int v1), (2, .int v2), (3, .int v3_46), (5, .int t0_88)] [.int t0_105, .int (d76.1 83 27), .ref (X.2.1 + 83)] G d76 0 0) (fun t0_105 h => ?_) (fun k105 hk105 h => ?_)
    · refine ya_iadd dX12_sellsOn_105 ?_
      refine ya_putIb fo_X12_291 (hG.o0 83 rfl) (hG.lt0 83 (by decide)) .int pf_X12_27 rfl rfl dX12_sellsOn_106 h (fun d106 h => ?_)
      refine ya_aload_n 0 rfl dX12_sellsOn_109 ?_
      refine ya_iload_n 1 rfl dX12_sellsOn_110 ?_
      refine ya_iload_n 2 rfl dX12_sellsOn_111 ?_
      refine ya_iload 4 rfl dX12_sellsOn_112 ?_
      obtain ⟨x114, d114, e114, h⟩ := ya_ob2 h
      refine ya_callVi (S := []) (c_X12_standIn hG e114) m_X12_standIn ⟨rfl, rfl⟩ ml_X12_294 rfl ⟨Nat.le_of_ble_eq_true rfl, Nat.le_of_ble_eq_true rfl⟩ (Nat.le_of_ble_eq_true rfl) (hG.lt0 83 (by decide)) (hG.o0 83 rfl) (by decide) rfl rfl ⟨Nat.le_refl _, Nat.le_refl _⟩ dX12_sellsOn_114 rfl ?_
      refine ya_istore [(6, .int x114), (0, .ref (X.2.1 + 83)), (1, .int v1), (2, .int v2), (3, .int v3_46), (5, .int t0_88)] (by decide) rfl dX12_sellsOn_117 ?_
      refine ya_iload_n 4 rfl dX12_sellsOn_119 ?_
      refine ya_istore [(7, .int v3_46), (6, .int x114), (0, .ref (X.2.1 + 83)), (1, .int v1), (2, .int v2), (3, .int v3_46), (5, .int t0_88)] (by decide) rfl dX12_sellsOn_120 ?_
      refine ya_iconst 0 (by decide) dX12_sellsOn_122 ?_
      refine ya_istore [(8, .int 0), (7, .int v3_46), (6, .int x114), (0, .ref (X.2.1 + 83)), (1, .int v1), (2, .int v2), (3, .int v3_46), (5, .int t0_88)] (by decide) rfl dX12_sellsOn_123 ?_
      refine ya_sub [(0, .ref (X.2.1 + 83)), (1, .int v1), (2, .int v2), (3, .int v3_46), (6, .int x114), (7, .int v3_46), (8, .int 0)] [3, 4, 5, 6, 2, 1, 0] rfl ?_
      refine w_X12_sellsOn_L125 hG (fun v7_205 d_205 h => ?_) ya_F _ _ _ h
      refine ya_aload_n 0 rfl dX12_sellsOn_205 ?_
      refine ya_getR fo_X12_43 (hG.o0 83 rfl) (hG.lt0 83 (by decide)) (hG.l0 91 rfl) dX12_sellsOn_206 ?_
      refine ya_iload_n 1 rfl dX12_sellsOn_209 ?_
      refine ya_iload_n 2 rfl dX12_sellsOn_210 ?_
      obtain ⟨x211, e211, h⟩ := ya_ob h
      refine ya_callSi (S := [.ref (X.2.1 + 93)]) (c_X12_at hG e211) m_X12_at ⟨rfl, rfl⟩ ml_X12_105 rfl ⟨Nat.le_of_ble_eq_true rfl, Nat.le_of_ble_eq_true rfl⟩ (Nat.le_of_ble_eq_true rfl) ⟨Nat.le_refl _, Nat.le_refl _⟩ dX12_sellsOn_211 rfl ?_
      refine ya_iload_n 3 rfl dX12_sellsOn_214 ?_
      refine ya_iload 4 rfl dX12_sellsOn_215 ?_
      refine ya_isub dX12_sellsOn_217 ?_
      refine ya_iast (hG.s0 93 rfl) (hG.lt0 93 (by decide)) dX12_sellsOn_218 h (fun d218 h => ?_)
      refine ya_aload_n 0 rfl dX12_sellsOn_219 ?_
      refine ya_iload_n 1 rfl dX12_sellsOn_220 ?_
      refine ya_iload_n 2 rfl dX12_sellsOn_221 ?_
      refine ya_iload_n 3 rfl dX12_sellsOn_222 ?_
      refine ya_iload 4 rfl dX12_sellsOn_223 ?_
      refine ya_isub dX12_sellsOn_225 ?_
      obtain ⟨d226, e226, h⟩ := ya_ob h
      refine ya_callVv (S := []) (c_X12_takes_ hG e226) m_X12_takes_ ⟨rfl, rfl⟩ ml_X12_298 rfl ⟨Nat.le_of_ble_eq_true rfl, Nat.le_of_ble_eq_true rfl⟩ (Nat.le_of_ble_eq_true rfl) (hG.lt0 83 (by decide)) (hG.o0 83 rfl) (by decide) rfl rfl ⟨Nat.le_refl _, Nat.le_refl _⟩ dX12_sellsOn_226 rfl ?_
      cases h
      exact ya_vret rfl rfl rfl rfl rfl (Nat.le_refl _) dX12_sellsOn_229
    · refine ya_ifeq 104 (by decide) dX12_sellsOn_97 (fun c => ?_) (fun c => ?_)
      · replace h := ya_itet h c
        refine ya_iconst 0 (by decide) dX12_sellsOn_104 ?_
        refine ya_sub [(0, .ref (X.2.1 + 83)), (1, .int v1), (2, .int v2), (3, .int v3_46), (5, .int t0_88)] [1, 2, 3, 4, 0] rfl ?_
        exact hk105 _ h
      · replace h := ya_itef h c
        refine ya_iconst 1 (by decide) dX12_sellsOn_100 ?_
        refine ya_goto 105 (by decide) dX12_sellsOn_101 ?_
        refine ya_sub [(0, .ref (X.2.1 + 83)), (1, .int v1), (2, .int v2), (3, .int v3_46), (5, .int t0_88)] [1, 2, 3, 4, 0] rfl ?_
        exact hk105 _ h
  · refine ya_icmp_le 87 (by decide) dX12_sellsOn_80 (fun c => ?_) (fun c => ?_)
    · replace h := ya_itet h c
      refine ya_iconst 0 (by decide) dX12_sellsOn_87 ?_
      refine ya_sub [(0, .ref (X.2.1 + 83)), (1, .int v1), (2, .int v2), (3, .int v3_46)] [1, 2, 3, 4] rfl ?_
      exact hk88 _ h
    · replace h := ya_itef h c
      refine ya_iconst 1 (by decide) dX12_sellsOn_83 ?_
      refine ya_goto 88 (by decide) dX12_sellsOn_84 ?_
      refine ya_sub [(0, .ref (X.2.1 + 83)), (1, .int v1), (2, .int v2), (3, .int v3_46)] [1, 2, 3, 4] rfl ?_
      exact hk88 _ h
set_option maxRecDepth 20000 in
theorem w_X12_runs_L12 {X : ya_X} {G : ya_G} {rr : ya_D} {e45 : ya_D → Option ya_D} (hG : ya_Bk ya_sh ya_ln G 0) (he45 : ∀ (d : ya_D), e45 d = some rr → ya_E X Y_X12_runs (ya_M X (none, G, rr) 0 0) 45 [(0, .ref (X.2.1 + 83))] [] G d 0 0) : ∀ (n : Nat) (v3 : Int32) (d : ya_D), f_X12_runs_L12 e45 n v3 d = some rr → ya_E X Y_X12_runs (ya_M X (none, G, rr) 0 0) 12 [(0, .ref (X.2.1 + 83)), (3, .int v3)] [] G d 0 0 := by
  intro n
  induction n with
  | zero => intro v3 d h; cases h
  | succ n ih =>
    intro v3 d h
    rw [f_X12_runs_L12] at h
    refine ya_iload_n 1 rfl dX12_runs_12 ?_
    refine ya_bipush 100 (by decide) dX12_runs_13 ?_
    refine ya_icmp_ge 45 (by decide) dX12_runs_15 (fun c => ?_) (fun c => ?_)
    · replace h := ya_itet h c
      refine ya_sub [(0, .ref (X.2.1 + 83))] [0] rfl ?_
      exact he45 _ h
    · replace h := ya_itef h c
      refine ya_aload_n 0 rfl dX12_runs_18 ?_
      refine ya_getR fo_X12_34 (hG.o0 83 rfl) (hG.lt0 83 (by decide)) (hG.l0 88 rfl) dX12_runs_19 ?_
      refine ya_iload_n 1 rfl dX12_runs_22 ?_
      refine ya_iconst 0 (by decide) dX12_runs_23 ?_
      refine ya_iast (hG.s0 90 rfl) (hG.lt0 90 (by decide)) dX12_runs_24 h (fun d24 h => ?_)
      refine ya_aload_n 0 rfl dX12_runs_25 ?_
      refine ya_getR fo_X12_46 (hG.o0 83 rfl) (hG.lt0 83 (by decide)) (hG.l0 92 rfl) dX12_runs_26 ?_
      refine ya_iload_n 1 rfl dX12_runs_29 ?_
      refine ya_iconst 0 (by decide) dX12_runs_30 ?_
      refine ya_iast (hG.s0 94 rfl) (hG.lt0 94 (by decide)) dX12_runs_31 h (fun d31 h => ?_)
      refine ya_aload_n 0 rfl dX12_runs_32 ?_
      refine ya_getR fo_X12_49 (hG.o0 83 rfl) (hG.lt0 83 (by decide)) (hG.l0 93 rfl) dX12_runs_33 ?_
      refine ya_iload_n 1 rfl dX12_runs_36 ?_
      refine ya_iconst 0 (by decide) dX12_runs_37 ?_
      refine ya_iast (hG.s0 95 rfl) (hG.lt0 95 (by decide)) dX12_runs_38 h (fun d38 h => ?_)
      refine ya_iinc (v3 + 1) rfl 1 rfl [(3, .int (v3 + 1)), (0, .ref (X.2.1 + 83))] (by decide) rfl dX12_runs_39 ?_
      refine ya_goto 12 (by decide) dX12_runs_42 ?_
      refine ya_sub [(0, .ref (X.2.1 + 83)), (3, .int (v3 + 1))] [1, 0] rfl ?_
      exact ih _ _ h
set_option maxRecDepth 20000 in
theorem w_X12_runs_L47 {X : ya_X} {G : ya_G} {rr : ya_D} {e66 : ya_D → Option ya_D} (hG : ya_Bk ya_sh ya_ln G 0) (he66 : ∀ (d : ya_D), e66 d = some rr → ya_E X Y_X12_runs (ya_M X (none, G, rr) 0 0) 66 [(0, .ref (X.2.1 + 83))] [] G d 0 0) : ∀ (n : Nat) (v3 : Int32) (d : ya_D), f_X12_runs_L47 e66 n v3 d = some rr → ya_E X Y_X12_runs (ya_M X (none, G, rr) 0 0) 47 [(0, .ref (X.2.1 + 83)), (3, .int v3)] [] G d 0 0 := by
  intro n
  induction n with
  | zero => intro v3 d h; cases h
  | succ n ih =>
    intro v3 d h
    rw [f_X12_runs_L47] at h
    refine ya_iload_n 1 rfl dX12_runs_47 ?_
    refine ya_bipush 100 (by decide) dX12_runs_48 ?_
    refine ya_icmp_ge 66 (by decide) dX12_runs_50 (fun c => ?_) (fun c => ?_)
    · replace h := ya_itet h c
      refine ya_sub [(0, .ref (X.2.1 + 83))] [0] rfl ?_
      exact he66 _ h
    · replace h := ya_itef h c
      refine ya_aload_n 0 rfl dX12_runs_53 ?_
      refine ya_getR fo_X12_64 (hG.o0 83 rfl) (hG.lt0 83 (by decide)) (hG.l0 98 rfl) dX12_runs_54 ?_
      refine ya_iload_n 1 rfl dX12_runs_57 ?_
      refine ya_iconst 0 (by decide) dX12_runs_58 ?_
      refine ya_iast (hG.s0 100 rfl) (hG.lt0 100 (by decide)) dX12_runs_59 h (fun d59 h => ?_)
      refine ya_iinc (v3 + 1) rfl 1 rfl [(3, .int (v3 + 1)), (0, .ref (X.2.1 + 83))] (by decide) rfl dX12_runs_60 ?_
      refine ya_goto 47 (by decide) dX12_runs_63 ?_
      refine ya_sub [(0, .ref (X.2.1 + 83)), (3, .int (v3 + 1))] [1, 0] rfl ?_
      exact ih _ _ h
set_option maxRecDepth 20000 in
theorem w_X12_runs_L68 {X : ya_X} {G : ya_G} {rr : ya_D} {e93 : ya_D → Option ya_D} (hG : ya_Bk ya_sh ya_ln G 0) (he93 : ∀ (d : ya_D), e93 d = some rr → ya_E X Y_X12_runs (ya_M X (none, G, rr) 0 0) 93 [(0, .ref (X.2.1 + 83))] [] G d 0 0) : ∀ (n : Nat) (v3 : Int32) (d : ya_D), f_X12_runs_L68 e93 n v3 d = some rr → ya_E X Y_X12_runs (ya_M X (none, G, rr) 0 0) 68 [(0, .ref (X.2.1 + 83)), (3, .int v3)] [] G d 0 0 := by
  intro n
  induction n with
  | zero => intro v3 d h; cases h
  | succ n ih =>
    intro v3 d h
    rw [f_X12_runs_L68] at h
    refine ya_iload_n 1 rfl dX12_runs_68 ?_
    refine ya_iconst 5 (by decide) dX12_runs_69 ?_
    refine ya_icmp_ge 93 (by decide) dX12_runs_70 (fun c => ?_) (fun c => ?_)
    · replace h := ya_itet h c
      refine ya_sub [(0, .ref (X.2.1 + 83))] [0] rfl ?_
      exact he93 _ h
    · replace h := ya_itef h c
      refine ya_aload_n 0 rfl dX12_runs_73 ?_
      refine ya_getR fo_X12_52 (hG.o0 83 rfl) (hG.lt0 83 (by decide)) (hG.l0 94 rfl) dX12_runs_74 ?_
      refine ya_iload_n 1 rfl dX12_runs_77 ?_
      refine ya_iconst 0 (by decide) dX12_runs_78 ?_
      refine ya_iast (hG.s0 96 rfl) (hG.lt0 96 (by decide)) dX12_runs_79 h (fun d79 h => ?_)
      refine ya_aload_n 0 rfl dX12_runs_80 ?_
      refine ya_getR fo_X12_55 (hG.o0 83 rfl) (hG.lt0 83 (by decide)) (hG.l0 95 rfl) dX12_runs_81 ?_
      refine ya_iload_n 1 rfl dX12_runs_84 ?_
      refine ya_iconst 0 (by decide) dX12_runs_85 ?_
      refine ya_iast (hG.s0 97 rfl) (hG.lt0 97 (by decide)) dX12_runs_86 h (fun d86 h => ?_)
      refine ya_iinc (v3 + 1) rfl 1 rfl [(3, .int (v3 + 1)), (0, .ref (X.2.1 + 83))] (by decide) rfl dX12_runs_87 ?_
      refine ya_goto 68 (by decide) dX12_runs_90 ?_
      refine ya_sub [(0, .ref (X.2.1 + 83)), (3, .int (v3 + 1))] [1, 0] rfl ?_
      exact ih _ _ h
set_option maxRecDepth 20000 in
theorem w_X12_runs_L95 {X : ya_X} {G : ya_G} {rr : ya_D} {e121 : ya_D → Option ya_D} (hG : ya_Bk ya_sh ya_ln G 0) (he121 : ∀ (d : ya_D), e121 d = some rr → ya_E X Y_X12_runs (ya_M X (none, G, rr) 0 0) 121 [(0, .ref (X.2.1 + 83))] [] G d 0 0) : ∀ (n : Nat) (v3 : Int32) (d : ya_D), f_X12_runs_L95 e121 n v3 d = some rr → ya_E X Y_X12_runs (ya_M X (none, G, rr) 0 0) 95 [(0, .ref (X.2.1 + 83)), (3, .int v3)] [] G d 0 0 := by
  intro n
  induction n with
  | zero => intro v3 d h; cases h
  | succ n ih =>
    intro v3 d h
    rw [f_X12_runs_L95] at h
    refine ya_iload_n 1 rfl dX12_runs_95 ?_
    refine ya_bipush 7 (by decide) dX12_runs_96 ?_
    refine ya_icmp_ge 121 (by decide) dX12_runs_98 (fun c => ?_) (fun c => ?_)
    · replace h := ya_itet h c
      refine ya_sub [(0, .ref (X.2.1 + 83))] [0] rfl ?_
      exact he121 _ h
    · replace h := ya_itef h c
      refine ya_aload_n 0 rfl dX12_runs_101 ?_
      refine ya_getR fo_X12_58 (hG.o0 83 rfl) (hG.lt0 83 (by decide)) (hG.l0 96 rfl) dX12_runs_102 ?_
      refine ya_iload_n 1 rfl dX12_runs_105 ?_
      refine ya_iconst 0 (by decide) dX12_runs_106 ?_
      refine ya_iast (hG.s0 98 rfl) (hG.lt0 98 (by decide)) dX12_runs_107 h (fun d107 h => ?_)
      refine ya_aload_n 0 rfl dX12_runs_108 ?_
      refine ya_getR fo_X12_61 (hG.o0 83 rfl) (hG.lt0 83 (by decide)) (hG.l0 97 rfl) dX12_runs_109 ?_
      refine ya_iload_n 1 rfl dX12_runs_112 ?_
      refine ya_iconst 0 (by decide) dX12_runs_113 ?_
      refine ya_iast (hG.s0 99 rfl) (hG.lt0 99 (by decide)) dX12_runs_114 h (fun d114 h => ?_)
      refine ya_iinc (v3 + 1) rfl 1 rfl [(3, .int (v3 + 1)), (0, .ref (X.2.1 + 83))] (by decide) rfl dX12_runs_115 ?_
      refine ya_goto 95 (by decide) dX12_runs_118 ?_
      refine ya_sub [(0, .ref (X.2.1 + 83)), (3, .int (v3 + 1))] [1, 0] rfl ?_
      exact ih _ _ h
set_option maxRecDepth 20000 in
theorem w_X12_runs_L141 {X : ya_X} {G : ya_G} {v3 : Int32} {rr : ya_D} {e165 : ya_D → Option ya_D} (hG : ya_Bk ya_sh ya_ln G 0) (he165 : ∀ (d : ya_D), e165 d = some rr → ya_E X Y_X12_runs (ya_M X (none, G, rr) 0 0) 165 [(0, .ref (X.2.1 + 83)), (3, .int v3)] [] G d 0 0) : ∀ (n : Nat) (v4 : Int32) (d : ya_D), f_X12_runs_L141 v3 e165 n v4 d = some rr → ya_E X Y_X12_runs (ya_M X (none, G, rr) 0 0) 141 [(0, .ref (X.2.1 + 83)), (3, .int v3), (4, .int v4)] [] G d 0 0 := by
  intro n
  induction n with
  | zero => intro v4 d h; cases h
  | succ n ih =>
    intro v4 d h
    rw [f_X12_runs_L141] at h
    refine ya_iload 2 rfl dX12_runs_141 ?_
    refine ya_aload_n 0 rfl dX12_runs_143 ?_
    refine ya_getR fo_X12_9 (hG.o0 83 rfl) (hG.lt0 83 (by decide)) (hG.l0 82 rfl) dX12_runs_144 ?_
    refine ya_iconst 1 (by decide) dX12_runs_147 ?_
    refine ya_iald (hG.s0 84 rfl) (hG.lt0 84 (by decide)) dX12_runs_148 h (fun x148 h => ?_)
    refine ya_icmp_ge 165 (by decide) dX12_runs_149 (fun c => ?_) (fun c => ?_)
    · replace h := ya_itet h c
      refine ya_sub [(0, .ref (X.2.1 + 83)), (3, .int v3)] [0, 1] rfl ?_
      exact he165 _ h
    · replace h := ya_itef h c
      refine ya_aload_n 0 rfl dX12_runs_152 ?_
      refine ya_iload 2 rfl dX12_runs_153 ?_
      refine ya_iload_n 1 rfl dX12_runs_155 ?_
      obtain ⟨d156, e156, h⟩ := ya_ob h
      refine ya_callVv (S := []) (c_X12_sellsOn hG e156) m_X12_sellsOn ⟨rfl, rfl⟩ ml_X12_304 rfl ⟨Nat.le_of_ble_eq_true rfl, Nat.le_of_ble_eq_true rfl⟩ (Nat.le_of_ble_eq_true rfl) (hG.lt0 83 (by decide)) (hG.o0 83 rfl) (by decide) rfl rfl ⟨Nat.le_refl _, Nat.le_refl _⟩ dX12_runs_156 rfl ?_
      refine ya_iinc (v4 + 1) rfl 2 rfl [(4, .int (v4 + 1)), (0, .ref (X.2.1 + 83)), (3, .int v3)] (by decide) rfl dX12_runs_159 ?_
      refine ya_goto 141 (by decide) dX12_runs_162 ?_
      refine ya_sub [(0, .ref (X.2.1 + 83)), (3, .int v3), (4, .int (v4 + 1))] [1, 2, 0] rfl ?_
      exact ih _ _ h
set_option maxRecDepth 20000 in
theorem w_X12_runs_L168 {X : ya_X} {G : ya_G} {v3 : Int32} {rr : ya_D} {e202 : ya_D → Option ya_D} (hG : ya_Bk ya_sh ya_ln G 0) (he202 : ∀ (d : ya_D), e202 d = some rr → ya_E X Y_X12_runs (ya_M X (none, G, rr) 0 0) 202 [(0, .ref (X.2.1 + 83)), (3, .int v3)] [] G d 0 0) : ∀ (n : Nat) (v4 : Int32) (d : ya_D), f_X12_runs_L168 v3 e202 n v4 d = some rr → ya_E X Y_X12_runs (ya_M X (none, G, rr) 0 0) 168 [(0, .ref (X.2.1 + 83)), (3, .int v3), (4, .int v4)] [] G d 0 0 := by
  intro n
  induction n with
  | zero => intro v4 d h; cases h
  | succ n ih =>
    intro v4 d h
    rw [f_X12_runs_L168] at h
    refine ya_iload 2 rfl dX12_runs_168 ?_
    refine ya_aload_n 0 rfl dX12_runs_170 ?_
    refine ya_getR fo_X12_9 (hG.o0 83 rfl) (hG.lt0 83 (by decide)) (hG.l0 82 rfl) dX12_runs_171 ?_
    refine ya_iconst 2 (by decide) dX12_runs_174 ?_
    refine ya_iald (hG.s0 84 rfl) (hG.lt0 84 (by decide)) dX12_runs_175 h (fun x175 h => ?_)
    refine ya_icmp_ge 202 (by decide) dX12_runs_176 (fun c => ?_) (fun c => ?_)
    · replace h := ya_itet h c
      refine ya_sub [(0, .ref (X.2.1 + 83)), (3, .int v3)] [0, 1] rfl ?_
      exact he202 _ h
    · replace h := ya_itef h c
      refine ya_aload_n 0 rfl dX12_runs_179 ?_
      refine ya_getR fo_X12_49 (hG.o0 83 rfl) (hG.lt0 83 (by decide)) (hG.l0 93 rfl) dX12_runs_180 ?_
      refine ya_iload 2 rfl dX12_runs_183 ?_
      refine ya_iload_n 1 rfl dX12_runs_185 ?_
      obtain ⟨x186, e186, h⟩ := ya_ob h
      refine ya_callSi (S := [.ref (X.2.1 + 95)]) (c_X12_at hG e186) m_X12_at ⟨rfl, rfl⟩ ml_X12_105 rfl ⟨Nat.le_of_ble_eq_true rfl, Nat.le_of_ble_eq_true rfl⟩ (Nat.le_of_ble_eq_true rfl) ⟨Nat.le_refl _, Nat.le_refl _⟩ dX12_runs_186 rfl ?_
      refine ya_aload_n 0 rfl dX12_runs_189 ?_
      refine ya_iload 2 rfl dX12_runs_190 ?_
      obtain ⟨x192, e192, h⟩ := ya_ob h
      refine ya_callVi (S := [.int x186, .ref (X.2.1 + 95)]) (c_X12_stockOf hG e192) m_X12_stockOf ⟨rfl, rfl⟩ ml_X12_285 rfl ⟨Nat.le_of_ble_eq_true rfl, Nat.le_of_ble_eq_true rfl⟩ (Nat.le_of_ble_eq_true rfl) (hG.lt0 83 (by decide)) (hG.o0 83 rfl) (by decide) rfl rfl ⟨Nat.le_refl _, Nat.le_refl _⟩ dX12_runs_192 rfl ?_
      refine ya_iast (hG.s0 95 rfl) (hG.lt0 95 (by decide)) dX12_runs_195 h (fun d195 h => ?_)
      refine ya_iinc (v4 + 1) rfl 2 rfl [(4, .int (v4 + 1)), (0, .ref (X.2.1 + 83)), (3, .int v3)] (by decide) rfl dX12_runs_196 ?_
      refine ya_goto 168 (by decide) dX12_runs_199 ?_
      refine ya_sub [(0, .ref (X.2.1 + 83)), (3, .int v3), (4, .int (v4 + 1))] [1, 2, 0] rfl ?_
      exact ih _ _ h
set_option maxRecDepth 20000 in
theorem w_X12_runs_L123 {X : ya_X} {G : ya_G} {rr : ya_D} (hG : ya_Bk ya_sh ya_ln G 0) : ∀ (n : Nat) (v3 : Int32) (d : ya_D), f_X12_runs_L123  n v3 d = some rr → ya_E X Y_X12_runs (ya_M X (none, G, rr) 0 0) 123 [(0, .ref (X.2.1 + 83)), (3, .int v3)] [] G d 0 0 := by
  intro n
  induction n with
  | zero => intro v3 d h; cases h
  | succ n ih =>
    intro v3 d h
    rw [f_X12_runs_L123] at h
    refine ya_iload_n 1 rfl dX12_runs_123 ?_
    refine ya_aload_n 0 rfl dX12_runs_124 ?_
    refine ya_getR fo_X12_9 (hG.o0 83 rfl) (hG.lt0 83 (by decide)) (hG.l0 82 rfl) dX12_runs_125 ?_
    refine ya_iconst 0 (by decide) dX12_runs_128 ?_
    refine ya_iald (hG.s0 84 rfl) (hG.lt0 84 (by decide)) dX12_runs_129 h (fun x129 h => ?_)
    refine ya_icmp_ge 208 (by decide) dX12_runs_130 (fun c => ?_) (fun c => ?_)
    · replace h := ya_itet h c
      cases h
      exact ya_vret rfl rfl rfl rfl rfl (Nat.le_refl _) dX12_runs_208
    · replace h := ya_itef h c
      refine ya_aload_n 0 rfl dX12_runs_133 ?_
      refine ya_iload_n 1 rfl dX12_runs_134 ?_
      obtain ⟨d135, e135, h⟩ := ya_ob h
      refine ya_callVv (S := []) (c_X12_spoilsIn hG e135) m_X12_spoilsIn ⟨rfl, rfl⟩ ml_X12_301 rfl ⟨Nat.le_of_ble_eq_true rfl, Nat.le_of_ble_eq_true rfl⟩ (Nat.le_of_ble_eq_true rfl) (hG.lt0 83 (by decide)) (hG.o0 83 rfl) (by decide) rfl rfl ⟨Nat.le_refl _, Nat.le_refl _⟩ dX12_runs_135 rfl ?_
      refine ya_iconst 0 (by decide) dX12_runs_138 ?_
      refine ya_istore [(4, .int 0), (0, .ref (X.2.1 + 83)), (3, .int v3)] (by decide) rfl dX12_runs_139 ?_
      refine ya_sub [(0, .ref (X.2.1 + 83)), (3, .int v3), (4, .int 0)] [1, 2, 0] rfl ?_
      refine w_X12_runs_L141 hG (fun d_165 h => ?_) ya_F _ _ h
      refine ya_iconst 0 (by decide) dX12_runs_165 ?_
      refine ya_istore [(4, .int 0), (0, .ref (X.2.1 + 83)), (3, .int v3)] (by decide) rfl dX12_runs_166 ?_
      refine ya_sub [(0, .ref (X.2.1 + 83)), (3, .int v3), (4, .int 0)] [1, 2, 0] rfl ?_
      refine w_X12_runs_L168 hG (fun d_202 h => ?_) ya_F _ _ h
      refine ya_iinc (v3 + 1) rfl 1 rfl [(3, .int (v3 + 1)), (0, .ref (X.2.1 + 83))] (by decide) rfl dX12_runs_202 ?_
      refine ya_goto 123 (by decide) dX12_runs_205 ?_
      refine ya_sub [(0, .ref (X.2.1 + 83)), (3, .int (v3 + 1))] [1, 0] rfl ?_
      exact ih _ _ h
set_option maxRecDepth 20000 in
theorem c_X12_runs {X : ya_X} {G : ya_G} {v1 : Int64} {d : ya_D} {rr : ya_D} (hG : ya_Bk ya_sh ya_ln G 0) (h : f_X12_runs v1 d = some rr) : ya_Ct X yX12_runs Y_X12_runs [.ref (X.2.1 + 83), .long v1] G d (none, G, rr) := by
  refine ya_ct (by decide +kernel) rfl rfl (Nat.le_of_ble_eq_true rfl) ?_
  unfold f_X12_runs at h
  show ya_E X Y_X12_runs (ya_M X (none, G, rr) 0 0) 0 [(0, .ref (X.2.1 + 83)), (1, .long v1)] [] G d 0 0
  refine ya_aload_n 0 rfl dX12_runs_0 ?_
  refine ya_lload_n 1 rfl dX12_runs_1 ?_
  refine ya_putLb fo_X12_250 (hG.o0 83 rfl) (hG.lt0 83 (by decide)) pf_X12_28 dX12_runs_2 h (fun d2 h => ?_)
  refine ya_aload_n 0 rfl dX12_runs_5 ?_
  refine ya_iconst 0 (by decide) dX12_runs_6 ?_
  refine ya_putIb fo_X12_291 (hG.o0 83 rfl) (hG.lt0 83 (by decide)) .int pf_X12_27 rfl rfl dX12_runs_7 h (fun d7 h => ?_)
  refine ya_iconst 0 (by decide) dX12_runs_10 ?_
  refine ya_istore_n [(3, .int 0), (0, .ref (X.2.1 + 83)), (1, .long v1)] (by decide) rfl dX12_runs_11 ?_
  refine ya_sub [(0, .ref (X.2.1 + 83)), (3, .int 0)] [1, 0] rfl ?_
  refine w_X12_runs_L12 hG (fun d_45 h => ?_) ya_F _ _ h
  refine ya_iconst 0 (by decide) dX12_runs_45 ?_
  refine ya_istore_n [(3, .int 0), (0, .ref (X.2.1 + 83))] (by decide) rfl dX12_runs_46 ?_
  refine ya_sub [(0, .ref (X.2.1 + 83)), (3, .int 0)] [1, 0] rfl ?_
  refine w_X12_runs_L47 hG (fun d_66 h => ?_) ya_F _ _ h
  refine ya_iconst 0 (by decide) dX12_runs_66 ?_
  refine ya_istore_n [(3, .int 0), (0, .ref (X.2.1 + 83))] (by decide) rfl dX12_runs_67 ?_
  refine ya_sub [(0, .ref (X.2.1 + 83)), (3, .int 0)] [1, 0] rfl ?_
  refine w_X12_runs_L68 hG (fun d_93 h => ?_) ya_F _ _ h
  refine ya_iconst 0 (by decide) dX12_runs_93 ?_
  refine ya_istore_n [(3, .int 0), (0, .ref (X.2.1 + 83))] (by decide) rfl dX12_runs_94 ?_
  refine ya_sub [(0, .ref (X.2.1 + 83)), (3, .int 0)] [1, 0] rfl ?_
  refine w_X12_runs_L95 hG (fun d_121 h => ?_) ya_F _ _ h
  refine ya_iconst 0 (by decide) dX12_runs_121 ?_
  refine ya_istore_n [(3, .int 0), (0, .ref (X.2.1 + 83))] (by decide) rfl dX12_runs_122 ?_
  refine ya_sub [(0, .ref (X.2.1 + 83)), (3, .int 0)] [1, 0] rfl ?_
  refine w_X12_runs_L123 hG  ya_F _ _ h
set_option maxRecDepth 20000 in
theorem c_X12_price {X : ya_X} {G : ya_G} {v1 : Int32} {v2 : Int32} {d : ya_D} {rr : Int32} (hG : ya_Bk ya_sh ya_ln G 0) (h : f_X12_price v1 v2 d = some rr) : ya_Ct X yX12_price Y_X12_price [.ref (X.2.1 + 83), .int v1, .int v2] G d (some (.int rr), G, d) := by
  refine ya_ct (by decide +kernel) rfl rfl (Nat.le_of_ble_eq_true rfl) ?_
  unfold f_X12_price at h
  show ya_E X Y_X12_price (ya_M X (some (.int rr), G, d) 0 0) 0 [(0, .ref (X.2.1 + 83)), (1, .int v1), (2, .int v2)] [] G d 0 0
  refine ya_aload_n 0 rfl dX12_price_0 ?_
  refine ya_iload_n 1 rfl dX12_price_1 ?_
  refine ya_iload_n 2 rfl dX12_price_2 ?_
  obtain ⟨x3, e3, h⟩ := ya_ob h
  refine ya_callVi (S := []) (c_X12_areSo hG e3) m_X12_areSo ⟨rfl, rfl⟩ ml_X12_307 rfl ⟨Nat.le_of_ble_eq_true rfl, Nat.le_of_ble_eq_true rfl⟩ (Nat.le_of_ble_eq_true rfl) (hG.lt0 83 (by decide)) (hG.o0 83 rfl) (by decide) rfl rfl ⟨Nat.le_refl _, Nat.le_refl _⟩ dX12_price_3 rfl ?_
  refine ya_ifeq 18 (by decide) dX12_price_6 (fun c => ?_) (fun c => ?_)
  · replace h := ya_itet h c
    refine ya_bipush (-2) (by decide) dX12_price_18 ?_
    cases h
    exact ya_iret rfl rfl rfl rfl rfl (Nat.le_refl _) dX12_price_20
  · replace h := ya_itef h c
    refine ya_aload_n 0 rfl dX12_price_9 ?_
    refine ya_iload_n 1 rfl dX12_price_10 ?_
    refine ya_iload_n 2 rfl dX12_price_11 ?_
    obtain ⟨x12, e12, h⟩ := ya_ob h
    refine ya_callVi (S := []) (c_X12_priceOf hG e12) m_X12_priceOf ⟨rfl, rfl⟩ ml_X12_263 rfl ⟨Nat.le_of_ble_eq_true rfl, Nat.le_of_ble_eq_true rfl⟩ (Nat.le_of_ble_eq_true rfl) (hG.lt0 83 (by decide)) (hG.o0 83 rfl) (by decide) rfl rfl ⟨Nat.le_refl _, Nat.le_refl _⟩ dX12_price_12 rfl ?_
    refine ya_goto 20 (by decide) dX12_price_15 ?_
    cases h
    exact ya_iret rfl rfl rfl rfl rfl (Nat.le_refl _) dX12_price_20
set_option maxRecDepth 20000 in
theorem c_X12_old {X : ya_X} {G : ya_G} {v1 : Int32} {v2 : Int32} {d : ya_D} {rr : Int32} (hG : ya_Bk ya_sh ya_ln G 0) (h : f_X12_old v1 v2 d = some rr) : ya_Ct X yX12_old Y_X12_old [.ref (X.2.1 + 83), .int v1, .int v2] G d (some (.int rr), G, d) := by
  refine ya_ct (by decide +kernel) rfl rfl (Nat.le_of_ble_eq_true rfl) ?_
  unfold f_X12_old at h
  show ya_E X Y_X12_old (ya_M X (some (.int rr), G, d) 0 0) 0 [(0, .ref (X.2.1 + 83)), (1, .int v1), (2, .int v2)] [] G d 0 0
  refine ya_aload_n 0 rfl dX12_old_0 ?_
  refine ya_iload_n 1 rfl dX12_old_1 ?_
  refine ya_iload_n 2 rfl dX12_old_2 ?_
  obtain ⟨x3, e3, h⟩ := ya_ob h
  refine ya_callVi (S := []) (c_X12_areSo hG e3) m_X12_areSo ⟨rfl, rfl⟩ ml_X12_307 rfl ⟨Nat.le_of_ble_eq_true rfl, Nat.le_of_ble_eq_true rfl⟩ (Nat.le_of_ble_eq_true rfl) (hG.lt0 83 (by decide)) (hG.o0 83 rfl) (by decide) rfl rfl ⟨Nat.le_refl _, Nat.le_refl _⟩ dX12_old_3 rfl ?_
  refine ya_ifeq 25 (by decide) dX12_old_6 (fun c => ?_) (fun c => ?_)
  · replace h := ya_itet h c
    refine ya_bipush (-2) (by decide) dX12_old_25 ?_
    cases h
    exact ya_iret rfl rfl rfl rfl rfl (Nat.le_refl _) dX12_old_27
  · replace h := ya_itef h c
    refine ya_aload_n 0 rfl dX12_old_9 ?_
    refine ya_getR fo_X12_9 (hG.o0 83 rfl) (hG.lt0 83 (by decide)) (hG.l0 82 rfl) dX12_old_10 ?_
    refine ya_bipush 111 (by decide) dX12_old_13 ?_
    refine ya_iload_n 1 rfl dX12_old_15 ?_
    refine ya_iload_n 2 rfl dX12_old_16 ?_
    obtain ⟨x17, e17, h⟩ := ya_ob h
    refine ya_callSi (S := [.int 111, .ref (X.2.1 + 84)]) (c_X12_at hG e17) m_X12_at ⟨rfl, rfl⟩ ml_X12_105 rfl ⟨Nat.le_of_ble_eq_true rfl, Nat.le_of_ble_eq_true rfl⟩ (Nat.le_of_ble_eq_true rfl) ⟨Nat.le_refl _, Nat.le_refl _⟩ dX12_old_17 rfl ?_
    refine ya_iadd dX12_old_20 ?_
    refine ya_iald (hG.s0 84 rfl) (hG.lt0 84 (by decide)) dX12_old_21 h (fun x21 h => ?_)
    refine ya_goto 27 (by decide) dX12_old_22 ?_
    cases h
    exact ya_iret rfl rfl rfl rfl rfl (Nat.le_refl _) dX12_old_27
set_option maxRecDepth 20000 in
theorem c_X12_offered {X : ya_X} {G : ya_G} {v1 : Int32} {v2 : Int32} {d : ya_D} {rr : (Int32 × ya_D)} (hG : ya_Bk ya_sh ya_ln G 0) (h : f_X12_offered v1 v2 d = some rr) : ya_Ct X yX12_offered Y_X12_offered [.ref (X.2.1 + 83), .int v1, .int v2] G d (some (.int rr.1), G, rr.2) := by
  refine ya_ct (by decide +kernel) rfl rfl (Nat.le_of_ble_eq_true rfl) ?_
  unfold f_X12_offered at h
  show ya_E X Y_X12_offered (ya_M X (some (.int rr.1), G, rr.2) 0 0) 0 [(0, .ref (X.2.1 + 83)), (1, .int v1), (2, .int v2)] [] G d 0 0
  refine ya_aload_n 0 rfl dX12_offered_0 ?_
  refine ya_iload_n 1 rfl dX12_offered_1 ?_
  refine ya_iload_n 2 rfl dX12_offered_2 ?_
  obtain ⟨x3, e3, h⟩ := ya_ob h
  refine ya_callVi (S := []) (c_X12_areSo hG e3) m_X12_areSo ⟨rfl, rfl⟩ ml_X12_307 rfl ⟨Nat.le_of_ble_eq_true rfl, Nat.le_of_ble_eq_true rfl⟩ (Nat.le_of_ble_eq_true rfl) (hG.lt0 83 (by decide)) (hG.o0 83 rfl) (by decide) rfl rfl ⟨Nat.le_refl _, Nat.le_refl _⟩ dX12_offered_3 rfl ?_
  refine ya_ifne 12 (by decide) dX12_offered_6 (fun c => ?_) (fun c => ?_)
  · replace h := ya_itef h c
    refine ya_aload_n 0 rfl dX12_offered_12 ?_
    refine ya_lconst 1 rfl dX12_offered_13 ?_
    obtain ⟨d14, e14, h⟩ := ya_ob h
    refine ya_callVv (S := []) (c_X12_runs hG e14) m_X12_runs ⟨rfl, rfl⟩ ml_X12_311 rfl ⟨Nat.le_of_ble_eq_true rfl, Nat.le_of_ble_eq_true rfl⟩ (Nat.le_of_ble_eq_true rfl) (hG.lt0 83 (by decide)) (hG.o0 83 rfl) (by decide) rfl rfl ⟨Nat.le_refl _, Nat.le_refl _⟩ dX12_offered_14 rfl ?_
    refine ya_aload_n 0 rfl dX12_offered_17 ?_
    refine ya_getR fo_X12_37 (hG.o0 83 rfl) (hG.lt0 83 (by decide)) (hG.l0 89 rfl) dX12_offered_18 ?_
    refine ya_iload_n 1 rfl dX12_offered_21 ?_
    refine ya_iload_n 2 rfl dX12_offered_22 ?_
    obtain ⟨x23, e23, h⟩ := ya_ob h
    refine ya_callSi (S := [.ref (X.2.1 + 91)]) (c_X12_at hG e23) m_X12_at ⟨rfl, rfl⟩ ml_X12_105 rfl ⟨Nat.le_of_ble_eq_true rfl, Nat.le_of_ble_eq_true rfl⟩ (Nat.le_of_ble_eq_true rfl) ⟨Nat.le_refl _, Nat.le_refl _⟩ dX12_offered_23 rfl ?_
    refine ya_iald (hG.s0 91 rfl) (hG.lt0 91 (by decide)) dX12_offered_26 h (fun x26 h => ?_)
    cases h
    exact ya_iret rfl rfl rfl rfl rfl (Nat.le_refl _) dX12_offered_27
  · replace h := ya_itet h c
    refine ya_bipush (-2) (by decide) dX12_offered_9 ?_
    cases h
    exact ya_iret rfl rfl rfl rfl rfl (Nat.le_refl _) dX12_offered_11
set_option maxRecDepth 20000 in
theorem c_X12_asked {X : ya_X} {G : ya_G} {v1 : Int32} {v2 : Int32} {d : ya_D} {rr : Int32} (hG : ya_Bk ya_sh ya_ln G 0) (h : f_X12_asked v1 v2 d = some rr) : ya_Ct X yX12_asked Y_X12_asked [.ref (X.2.1 + 83), .int v1, .int v2] G d (some (.int rr), G, d) := by
  refine ya_ct (by decide +kernel) rfl rfl (Nat.le_of_ble_eq_true rfl) ?_
  unfold f_X12_asked at h
  show ya_E X Y_X12_asked (ya_M X (some (.int rr), G, d) 0 0) 0 [(0, .ref (X.2.1 + 83)), (1, .int v1), (2, .int v2)] [] G d 0 0
  refine ya_aload_n 0 rfl dX12_asked_0 ?_
  refine ya_iload_n 1 rfl dX12_asked_1 ?_
  refine ya_iload_n 2 rfl dX12_asked_2 ?_
  obtain ⟨x3, e3, h⟩ := ya_ob h
  refine ya_callVi (S := []) (c_X12_areSo hG e3) m_X12_areSo ⟨rfl, rfl⟩ ml_X12_307 rfl ⟨Nat.le_of_ble_eq_true rfl, Nat.le_of_ble_eq_true rfl⟩ (Nat.le_of_ble_eq_true rfl) (hG.lt0 83 (by decide)) (hG.o0 83 rfl) (by decide) rfl rfl ⟨Nat.le_refl _, Nat.le_refl _⟩ dX12_asked_3 rfl ?_
  refine ya_ifeq 18 (by decide) dX12_asked_6 (fun c => ?_) (fun c => ?_)
  · replace h := ya_itet h c
    refine ya_bipush (-2) (by decide) dX12_asked_18 ?_
    cases h
    exact ya_iret rfl rfl rfl rfl rfl (Nat.le_refl _) dX12_asked_20
  · replace h := ya_itef h c
    refine ya_aload_n 0 rfl dX12_asked_9 ?_
    refine ya_iload_n 1 rfl dX12_asked_10 ?_
    refine ya_iload_n 2 rfl dX12_asked_11 ?_
    obtain ⟨x12, e12, h⟩ := ya_ob h
    refine ya_callVi (S := []) (c_X12_askedOf hG e12) m_X12_askedOf ⟨rfl, rfl⟩ ml_X12_288 rfl ⟨Nat.le_of_ble_eq_true rfl, Nat.le_of_ble_eq_true rfl⟩ (Nat.le_of_ble_eq_true rfl) (hG.lt0 83 (by decide)) (hG.o0 83 rfl) (by decide) rfl rfl ⟨Nat.le_refl _, Nat.le_refl _⟩ dX12_asked_12 rfl ?_
    refine ya_goto 20 (by decide) dX12_asked_15 ?_
    cases h
    exact ya_iret rfl rfl rfl rfl rfl (Nat.le_refl _) dX12_asked_20
set_option maxRecDepth 20000 in
theorem c_X12_sold {X : ya_X} {G : ya_G} {v1 : Int32} {v2 : Int32} {d : ya_D} {rr : (Int32 × ya_D)} (hG : ya_Bk ya_sh ya_ln G 0) (h : f_X12_sold v1 v2 d = some rr) : ya_Ct X yX12_sold Y_X12_sold [.ref (X.2.1 + 83), .int v1, .int v2] G d (some (.int rr.1), G, rr.2) := by
  refine ya_ct (by decide +kernel) rfl rfl (Nat.le_of_ble_eq_true rfl) ?_
  unfold f_X12_sold at h
  show ya_E X Y_X12_sold (ya_M X (some (.int rr.1), G, rr.2) 0 0) 0 [(0, .ref (X.2.1 + 83)), (1, .int v1), (2, .int v2)] [] G d 0 0
  refine ya_aload_n 0 rfl dX12_sold_0 ?_
  refine ya_iload_n 1 rfl dX12_sold_1 ?_
  refine ya_iload_n 2 rfl dX12_sold_2 ?_
  obtain ⟨x3, e3, h⟩ := ya_ob h
  refine ya_callVi (S := []) (c_X12_areSo hG e3) m_X12_areSo ⟨rfl, rfl⟩ ml_X12_307 rfl ⟨Nat.le_of_ble_eq_true rfl, Nat.le_of_ble_eq_true rfl⟩ (Nat.le_of_ble_eq_true rfl) (hG.lt0 83 (by decide)) (hG.o0 83 rfl) (by decide) rfl rfl ⟨Nat.le_refl _, Nat.le_refl _⟩ dX12_sold_3 rfl ?_
  refine ya_ifne 12 (by decide) dX12_sold_6 (fun c => ?_) (fun c => ?_)
  · replace h := ya_itef h c
    refine ya_aload_n 0 rfl dX12_sold_12 ?_
    refine ya_lconst 1 rfl dX12_sold_13 ?_
    obtain ⟨d14, e14, h⟩ := ya_ob h
    refine ya_callVv (S := []) (c_X12_runs hG e14) m_X12_runs ⟨rfl, rfl⟩ ml_X12_311 rfl ⟨Nat.le_of_ble_eq_true rfl, Nat.le_of_ble_eq_true rfl⟩ (Nat.le_of_ble_eq_true rfl) (hG.lt0 83 (by decide)) (hG.o0 83 rfl) (by decide) rfl rfl ⟨Nat.le_refl _, Nat.le_refl _⟩ dX12_sold_14 rfl ?_
    refine ya_aload_n 0 rfl dX12_sold_17 ?_
    refine ya_getR fo_X12_43 (hG.o0 83 rfl) (hG.lt0 83 (by decide)) (hG.l0 91 rfl) dX12_sold_18 ?_
    refine ya_iload_n 1 rfl dX12_sold_21 ?_
    refine ya_iload_n 2 rfl dX12_sold_22 ?_
    obtain ⟨x23, e23, h⟩ := ya_ob h
    refine ya_callSi (S := [.ref (X.2.1 + 93)]) (c_X12_at hG e23) m_X12_at ⟨rfl, rfl⟩ ml_X12_105 rfl ⟨Nat.le_of_ble_eq_true rfl, Nat.le_of_ble_eq_true rfl⟩ (Nat.le_of_ble_eq_true rfl) ⟨Nat.le_refl _, Nat.le_refl _⟩ dX12_sold_23 rfl ?_
    refine ya_iald (hG.s0 93 rfl) (hG.lt0 93 (by decide)) dX12_sold_26 h (fun x26 h => ?_)
    cases h
    exact ya_iret rfl rfl rfl rfl rfl (Nat.le_refl _) dX12_sold_27
  · replace h := ya_itet h c
    refine ya_bipush (-2) (by decide) dX12_sold_9 ?_
    cases h
    exact ya_iret rfl rfl rfl rfl rfl (Nat.le_refl _) dX12_sold_11
set_option maxRecDepth 20000 in
theorem w_X12_allGets_L4 {X : ya_X} {G : ya_G} {v1 : Int32} {d : ya_D} {rr : Int32} (hG : ya_Bk ya_sh ya_ln G 0) : ∀ (n : Nat) (v2 : Int32) (v3 : Int32), f_X12_allGets_L4 v1 d n v2 v3 = some rr → ya_E X Y_X12_allGets (ya_M X (some (.int rr), G, d) 0 0) 4 [(0, .ref (X.2.1 + 83)), (1, .int v1), (2, .int v2), (3, .int v3)] [] G d 0 0 := by
  intro n
  induction n with
  | zero => intro v2 v3 h; cases h
  | succ n ih =>
    intro v2 v3 h
    rw [f_X12_allGets_L4] at h
    refine ya_iload_n 3 rfl dX12_allGets_4 ?_
    refine ya_aload_n 0 rfl dX12_allGets_5 ?_
    refine ya_getR fo_X12_9 (hG.o0 83 rfl) (hG.lt0 83 (by decide)) (hG.l0 82 rfl) dX12_allGets_6 ?_
    refine ya_iconst 0 (by decide) dX12_allGets_9 ?_
    refine ya_iald (hG.s0 84 rfl) (hG.lt0 84 (by decide)) dX12_allGets_10 h (fun x10 h => ?_)
    refine ya_icmp_ge 33 (by decide) dX12_allGets_11 (fun c => ?_) (fun c => ?_)
    · replace h := ya_itet h c
      refine ya_iload_n 2 rfl dX12_allGets_33 ?_
      cases h
      exact ya_iret rfl rfl rfl rfl rfl (Nat.le_refl _) dX12_allGets_34
    · replace h := ya_itef h c
      refine ya_iload_n 2 rfl dX12_allGets_14 ?_
      refine ya_aload_n 0 rfl dX12_allGets_15 ?_
      refine ya_getR fo_X12_46 (hG.o0 83 rfl) (hG.lt0 83 (by decide)) (hG.l0 92 rfl) dX12_allGets_16 ?_
      refine ya_iload_n 1 rfl dX12_allGets_19 ?_
      refine ya_iload_n 3 rfl dX12_allGets_20 ?_
      obtain ⟨x21, e21, h⟩ := ya_ob h
      refine ya_callSi (S := [.ref (X.2.1 + 94), .int v2]) (c_X12_at hG e21) m_X12_at ⟨rfl, rfl⟩ ml_X12_105 rfl ⟨Nat.le_of_ble_eq_true rfl, Nat.le_of_ble_eq_true rfl⟩ (Nat.le_of_ble_eq_true rfl) ⟨Nat.le_refl _, Nat.le_refl _⟩ dX12_allGets_21 rfl ?_
      refine ya_iald (hG.s0 94 rfl) (hG.lt0 94 (by decide)) dX12_allGets_24 h (fun x24 h => ?_)
      refine ya_iadd dX12_allGets_25 ?_
      refine ya_istore_n [(2, .int (v2 + x24)), (0, .ref (X.2.1 + 83)), (1, .int v1), (3, .int v3)] (by decide) rfl dX12_allGets_26 ?_
      refine ya_iinc (v3 + 1) rfl 3 rfl [(3, .int (v3 + 1)), (2, .int (v2 + x24)), (0, .ref (X.2.1 + 83)), (1, .int v1)] (by decide) rfl dX12_allGets_27 ?_
      refine ya_goto 4 (by decide) dX12_allGets_30 ?_
      refine ya_sub [(0, .ref (X.2.1 + 83)), (1, .int v1), (2, .int (v2 + x24)), (3, .int (v3 + 1))] [2, 3, 1, 0] rfl ?_
      exact ih _ _ h
set_option maxRecDepth 20000 in
theorem c_X12_allGets {X : ya_X} {G : ya_G} {v1 : Int32} {d : ya_D} {rr : Int32} (hG : ya_Bk ya_sh ya_ln G 0) (h : f_X12_allGets v1 d = some rr) : ya_Ct X yX12_allGets Y_X12_allGets [.ref (X.2.1 + 83), .int v1] G d (some (.int rr), G, d) := by
  refine ya_ct (by decide +kernel) rfl rfl (Nat.le_of_ble_eq_true rfl) ?_
  unfold f_X12_allGets at h
  show ya_E X Y_X12_allGets (ya_M X (some (.int rr), G, d) 0 0) 0 [(0, .ref (X.2.1 + 83)), (1, .int v1)] [] G d 0 0
  refine ya_iconst 0 (by decide) dX12_allGets_0 ?_
  refine ya_istore_n [(2, .int 0), (0, .ref (X.2.1 + 83)), (1, .int v1)] (by decide) rfl dX12_allGets_1 ?_
  refine ya_iconst 0 (by decide) dX12_allGets_2 ?_
  refine ya_istore_n [(3, .int 0), (2, .int 0), (0, .ref (X.2.1 + 83)), (1, .int v1)] (by decide) rfl dX12_allGets_3 ?_
  refine ya_sub [(0, .ref (X.2.1 + 83)), (1, .int v1), (2, .int 0), (3, .int 0)] [2, 3, 1, 0] rfl ?_
  refine w_X12_allGets_L4 hG  ya_F _ _ h
set_option maxRecDepth 20000 in
theorem w_X12_bestDay_L4 {X : ya_X} {G : ya_G} {v1 : Int32} {d : ya_D} {rr : Int32} {e49 : Int32 → Option Int32} (hG : ya_Bk ya_sh ya_ln G 0) (he49 : ∀ (v2 : Int32), e49 v2 = some rr → ya_E X Y_X12_bestDay (ya_M X (some (.int rr), G, d) 0 0) 49 [(0, .ref (X.2.1 + 83)), (1, .int v1), (2, .int v2)] [] G d 0 0) : ∀ (n : Nat) (v2 : Int32) (v3 : Int32), f_X12_bestDay_L4 v1 d e49 n v2 v3 = some rr → ya_E X Y_X12_bestDay (ya_M X (some (.int rr), G, d) 0 0) 4 [(0, .ref (X.2.1 + 83)), (1, .int v1), (2, .int v2), (3, .int v3)] [] G d 0 0 := by
  intro n
  induction n with
  | zero => intro v2 v3 h; cases h
  | succ n ih =>
    intro v2 v3 h
    rw [f_X12_bestDay_L4] at h
    refine ya_iload_n 3 rfl dX12_bestDay_4 ?_
    refine ya_aload_n 0 rfl dX12_bestDay_5 ?_
    refine ya_getR fo_X12_9 (hG.o0 83 rfl) (hG.lt0 83 (by decide)) (hG.l0 82 rfl) dX12_bestDay_6 ?_
    refine ya_iconst 0 (by decide) dX12_bestDay_9 ?_
    refine ya_iald (hG.s0 84 rfl) (hG.lt0 84 (by decide)) dX12_bestDay_10 h (fun x10 h => ?_)
    refine ya_icmp_ge 49 (by decide) dX12_bestDay_11 (fun c => ?_) (fun c => ?_)
    · replace h := ya_itet h c
      refine ya_sub [(0, .ref (X.2.1 + 83)), (1, .int v1), (2, .int v2)] [0, 1, 2] rfl ?_
      exact he49 _ h
    · replace h := ya_itef h c
      refine ya_aload_n 0 rfl dX12_bestDay_14 ?_
      refine ya_getR fo_X12_46 (hG.o0 83 rfl) (hG.lt0 83 (by decide)) (hG.l0 92 rfl) dX12_bestDay_15 ?_
      refine ya_iload_n 1 rfl dX12_bestDay_18 ?_
      refine ya_iload_n 3 rfl dX12_bestDay_19 ?_
      obtain ⟨x20, e20, h⟩ := ya_ob h
      refine ya_callSi (S := [.ref (X.2.1 + 94)]) (c_X12_at hG e20) m_X12_at ⟨rfl, rfl⟩ ml_X12_105 rfl ⟨Nat.le_of_ble_eq_true rfl, Nat.le_of_ble_eq_true rfl⟩ (Nat.le_of_ble_eq_true rfl) ⟨Nat.le_refl _, Nat.le_refl _⟩ dX12_bestDay_20 rfl ?_
      refine ya_iald (hG.s0 94 rfl) (hG.lt0 94 (by decide)) dX12_bestDay_23 h (fun x23 h => ?_)
      refine ya_aload_n 0 rfl dX12_bestDay_24 ?_
      refine ya_getR fo_X12_46 (hG.o0 83 rfl) (hG.lt0 83 (by decide)) (hG.l0 92 rfl) dX12_bestDay_25 ?_
      refine ya_iload_n 1 rfl dX12_bestDay_28 ?_
      refine ya_iload_n 2 rfl dX12_bestDay_29 ?_
      obtain ⟨x30, e30, h⟩ := ya_ob h
      refine ya_callSi (S := [.ref (X.2.1 + 94), .int x23]) (c_X12_at hG e30) m_X12_at ⟨rfl, rfl⟩ ml_X12_105 rfl ⟨Nat.le_of_ble_eq_true rfl, Nat.le_of_ble_eq_true rfl⟩ (Nat.le_of_ble_eq_true rfl) ⟨Nat.le_refl _, Nat.le_refl _⟩ dX12_bestDay_30 rfl ?_
      refine ya_iald (hG.s0 94 rfl) (hG.lt0 94 (by decide)) dX12_bestDay_33 h (fun x33 h => ?_)
      refine ya_j1_s h (fun t0_42 => ya_E X Y_X12_bestDay (ya_M X (some (.int rr), G, d) 0 0) 42 [(0, .ref (X.2.1 + 83)), (1, .int v1), (3, .int v3)] [.int t0_42] G d 0 0) (fun t0_42 h => ?_) (fun k42 hk42 h => ?_)
      · refine ya_istore_n [(2, .int t0_42), (0, .ref (X.2.1 + 83)), (1, .int v1), (3, .int v3)] (by decide) rfl dX12_bestDay_42 ?_
        refine ya_iinc (v3 + 1) rfl 3 rfl [(3, .int (v3 + 1)), (2, .int t0_42), (0, .ref (X.2.1 + 83)), (1, .int v1)] (by decide) rfl dX12_bestDay_43 ?_
        refine ya_goto 4 (by decide) dX12_bestDay_46 ?_
        refine ya_sub [(0, .ref (X.2.1 + 83)), (1, .int v1), (2, .int t0_42), (3, .int (v3 + 1))] [2, 3, 1, 0] rfl ?_
        exact ih _ _ h
      · refine ya_icmp_le 41 (by decide) dX12_bestDay_34 (fun c => ?_) (fun c => ?_)
        · replace h := ya_itet h c
          refine ya_iload_n 2 rfl dX12_bestDay_41 ?_
          refine ya_sub [(0, .ref (X.2.1 + 83)), (1, .int v1), (3, .int v3)] [0, 1, 3] rfl ?_
          exact hk42 _ h
        · replace h := ya_itef h c
          refine ya_iload_n 3 rfl dX12_bestDay_37 ?_
          refine ya_goto 42 (by decide) dX12_bestDay_38 ?_
          refine ya_sub [(0, .ref (X.2.1 + 83)), (1, .int v1), (3, .int v3)] [0, 1, 3] rfl ?_
          exact hk42 _ h
set_option maxRecDepth 20000 in
theorem c_X12_bestDay {X : ya_X} {G : ya_G} {v1 : Int32} {d : ya_D} {rr : Int32} (hG : ya_Bk ya_sh ya_ln G 0) (h : f_X12_bestDay v1 d = some rr) : ya_Ct X yX12_bestDay Y_X12_bestDay [.ref (X.2.1 + 83), .int v1] G d (some (.int rr), G, d) := by
  refine ya_ct (by decide +kernel) rfl rfl (Nat.le_of_ble_eq_true rfl) ?_
  unfold f_X12_bestDay at h
  show ya_E X Y_X12_bestDay (ya_M X (some (.int rr), G, d) 0 0) 0 [(0, .ref (X.2.1 + 83)), (1, .int v1)] [] G d 0 0
  refine ya_iconst 0 (by decide) dX12_bestDay_0 ?_
  refine ya_istore_n [(2, .int 0), (0, .ref (X.2.1 + 83)), (1, .int v1)] (by decide) rfl dX12_bestDay_1 ?_
  refine ya_iconst 1 (by decide) dX12_bestDay_2 ?_
  refine ya_istore_n [(3, .int 1), (2, .int 0), (0, .ref (X.2.1 + 83)), (1, .int v1)] (by decide) rfl dX12_bestDay_3 ?_
  refine ya_sub [(0, .ref (X.2.1 + 83)), (1, .int v1), (2, .int 0), (3, .int 1)] [2, 3, 1, 0] rfl ?_
  refine w_X12_bestDay_L4 hG (fun v2_49 h => ?_) ya_F _ _ h
  refine ya_aload_n 0 rfl dX12_bestDay_49 ?_
  refine ya_getR fo_X12_46 (hG.o0 83 rfl) (hG.lt0 83 (by decide)) (hG.l0 92 rfl) dX12_bestDay_50 ?_
  refine ya_iload_n 1 rfl dX12_bestDay_53 ?_
  refine ya_iload_n 2 rfl dX12_bestDay_54 ?_
  obtain ⟨x55, e55, h⟩ := ya_ob h
  refine ya_callSi (S := [.ref (X.2.1 + 94)]) (c_X12_at hG e55) m_X12_at ⟨rfl, rfl⟩ ml_X12_105 rfl ⟨Nat.le_of_ble_eq_true rfl, Nat.le_of_ble_eq_true rfl⟩ (Nat.le_of_ble_eq_true rfl) ⟨Nat.le_refl _, Nat.le_refl _⟩ dX12_bestDay_55 rfl ?_
  refine ya_iald (hG.s0 94 rfl) (hG.lt0 94 (by decide)) dX12_bestDay_58 h (fun x58 h => ?_)
  refine ya_ifne 66 (by decide) dX12_bestDay_59 (fun c => ?_) (fun c => ?_)
  · replace h := ya_itef h c
    refine ya_iload_n 2 rfl dX12_bestDay_66 ?_
    cases h
    exact ya_iret rfl rfl rfl rfl rfl (Nat.le_refl _) dX12_bestDay_67
  · replace h := ya_itet h c
    refine ya_iconst (-1) (by decide) dX12_bestDay_62 ?_
    refine ya_goto 67 (by decide) dX12_bestDay_63 ?_
    cases h
    exact ya_iret rfl rfl rfl rfl rfl (Nat.le_refl _) dX12_bestDay_67
set_option maxRecDepth 20000 in
theorem c_X12_seller {X : ya_X} {G : ya_G} {v1 : Int32} {v2 : Int32} {d : ya_D} {rr : (Int32 × ya_D)} (hG : ya_Bk ya_sh ya_ln G 0) (h : f_X12_seller v1 v2 d = some rr) : ya_Ct X yX12_seller Y_X12_seller [.ref (X.2.1 + 83), .int v1, .int v2] G d (some (.int rr.1), G, rr.2) := by
  refine ya_ct (by decide +kernel) rfl rfl (Nat.le_of_ble_eq_true rfl) ?_
  unfold f_X12_seller at h
  show ya_E X Y_X12_seller (ya_M X (some (.int rr.1), G, rr.2) 0 0) 0 [(0, .ref (X.2.1 + 83)), (1, .int v1), (2, .int v2)] [] G d 0 0
  refine ya_aload_n 0 rfl dX12_seller_0 ?_
  refine ya_iload_n 1 rfl dX12_seller_1 ?_
  obtain ⟨x2, e2, h⟩ := ya_ob h
  refine ya_callVi (S := []) (c_X12_isSeller hG e2) m_X12_isSeller ⟨rfl, rfl⟩ ml_X12_315 rfl ⟨Nat.le_of_ble_eq_true rfl, Nat.le_of_ble_eq_true rfl⟩ (Nat.le_of_ble_eq_true rfl) (hG.lt0 83 (by decide)) (hG.o0 83 rfl) (by decide) rfl rfl ⟨Nat.le_refl _, Nat.le_refl _⟩ dX12_seller_2 rfl ?_
  refine ya_j0_s h (ya_E X Y_X12_seller (ya_M X (some (.int rr.1), G, rr.2) 0 0) 20 [] [] G d 0 0) (fun h => ?_) (fun k20 hk20 h => ?_)
  · refine ya_bipush (-2) (by decide) dX12_seller_20 ?_
    cases h
    exact ya_iret rfl rfl rfl rfl rfl (Nat.le_refl _) dX12_seller_22
  · refine ya_ifeq 20 (by decide) dX12_seller_5 (fun c => ?_) (fun c => ?_)
    · replace h := ya_itet h c
      refine ya_sub [] [] rfl ?_
      exact hk20  h
    · replace h := ya_itef h c
      refine ya_iload_n 2 rfl dX12_seller_8 ?_
      refine ya_i2l dX12_seller_9 ?_
      refine ya_lconst 0 rfl dX12_seller_10 ?_
      refine ya_ldc2 4 kc_X12_319 dX12_seller_11 ?_
      obtain ⟨x14, e14, h⟩ := ya_ob h
      refine ya_callSi (S := []) (c_X12_in hG e14) m_X12_in ⟨rfl, rfl⟩ ml_X12_94 rfl ⟨Nat.le_of_ble_eq_true rfl, Nat.le_of_ble_eq_true rfl⟩ (Nat.le_of_ble_eq_true rfl) ⟨Nat.le_refl _, Nat.le_refl _⟩ dX12_seller_14 rfl ?_
      refine ya_ifne 23 (by decide) dX12_seller_17 (fun c => ?_) (fun c => ?_)
      · replace h := ya_itef h c
        refine ya_aload_n 0 rfl dX12_seller_23 ?_
        refine ya_lconst 1 rfl dX12_seller_24 ?_
        obtain ⟨d25, e25, h⟩ := ya_ob h
        refine ya_callVv (S := []) (c_X12_runs hG e25) m_X12_runs ⟨rfl, rfl⟩ ml_X12_311 rfl ⟨Nat.le_of_ble_eq_true rfl, Nat.le_of_ble_eq_true rfl⟩ (Nat.le_of_ble_eq_true rfl) (hG.lt0 83 (by decide)) (hG.o0 83 rfl) (by decide) rfl rfl ⟨Nat.le_refl _, Nat.le_refl _⟩ dX12_seller_25 rfl ?_
        refine ya_iload_n 2 rfl dX12_seller_28 ?_
        refine ya_ifne 40 (by decide) dX12_seller_29 (fun c => ?_) (fun c => ?_)
        · replace h := ya_itef h c
          refine ya_iload_n 2 rfl dX12_seller_40 ?_
          refine ya_iconst 1 (by decide) dX12_seller_41 ?_
          refine ya_icmp_ne 54 (by decide) dX12_seller_42 (fun c => ?_) (fun c => ?_)
          · replace h := ya_itef h c
            refine ya_iload_n 2 rfl dX12_seller_54 ?_
            refine ya_iconst 2 (by decide) dX12_seller_55 ?_
            refine ya_icmp_ne 68 (by decide) dX12_seller_56 (fun c => ?_) (fun c => ?_)
            · replace h := ya_itef h c
              refine ya_iload_n 2 rfl dX12_seller_68 ?_
              refine ya_iconst 3 (by decide) dX12_seller_69 ?_
              refine ya_icmp_ne 81 (by decide) dX12_seller_70 (fun c => ?_) (fun c => ?_)
              · replace h := ya_itef h c
                refine ya_aload_n 0 rfl dX12_seller_81 ?_
                refine ya_iload_n 1 rfl dX12_seller_82 ?_
                obtain ⟨x83, e83, h⟩ := ya_ob h
                refine ya_callVi (S := []) (c_X12_bestDay hG e83) m_X12_bestDay ⟨rfl, rfl⟩ ml_X12_324 rfl ⟨Nat.le_of_ble_eq_true rfl, Nat.le_of_ble_eq_true rfl⟩ (Nat.le_of_ble_eq_true rfl) (hG.lt0 83 (by decide)) (hG.o0 83 rfl) (by decide) rfl rfl ⟨Nat.le_refl _, Nat.le_refl _⟩ dX12_seller_83 rfl ?_
                cases h
                exact ya_iret rfl rfl rfl rfl rfl (Nat.le_refl _) dX12_seller_86
              · replace h := ya_itet h c
                refine ya_aload_n 0 rfl dX12_seller_73 ?_
                refine ya_iload_n 1 rfl dX12_seller_74 ?_
                obtain ⟨x75, e75, h⟩ := ya_ob h
                refine ya_callVi (S := []) (c_X12_stockOf hG e75) m_X12_stockOf ⟨rfl, rfl⟩ ml_X12_285 rfl ⟨Nat.le_of_ble_eq_true rfl, Nat.le_of_ble_eq_true rfl⟩ (Nat.le_of_ble_eq_true rfl) (hG.lt0 83 (by decide)) (hG.o0 83 rfl) (by decide) rfl rfl ⟨Nat.le_refl _, Nat.le_refl _⟩ dX12_seller_75 rfl ?_
                refine ya_goto 86 (by decide) dX12_seller_78 ?_
                cases h
                exact ya_iret rfl rfl rfl rfl rfl (Nat.le_refl _) dX12_seller_86
            · replace h := ya_itet h c
              refine ya_aload_n 0 rfl dX12_seller_59 ?_
              refine ya_getR fo_X12_55 (hG.o0 83 rfl) (hG.lt0 83 (by decide)) (hG.l0 95 rfl) dX12_seller_60 ?_
              refine ya_iload_n 1 rfl dX12_seller_63 ?_
              refine ya_iald (hG.s0 97 rfl) (hG.lt0 97 (by decide)) dX12_seller_64 h (fun x64 h => ?_)
              refine ya_goto 86 (by decide) dX12_seller_65 ?_
              cases h
              exact ya_iret rfl rfl rfl rfl rfl (Nat.le_refl _) dX12_seller_86
          · replace h := ya_itet h c
            refine ya_aload_n 0 rfl dX12_seller_45 ?_
            refine ya_getR fo_X12_52 (hG.o0 83 rfl) (hG.lt0 83 (by decide)) (hG.l0 94 rfl) dX12_seller_46 ?_
            refine ya_iload_n 1 rfl dX12_seller_49 ?_
            refine ya_iald (hG.s0 96 rfl) (hG.lt0 96 (by decide)) dX12_seller_50 h (fun x50 h => ?_)
            refine ya_goto 86 (by decide) dX12_seller_51 ?_
            cases h
            exact ya_iret rfl rfl rfl rfl rfl (Nat.le_refl _) dX12_seller_86
        · replace h := ya_itet h c
          refine ya_aload_n 0 rfl dX12_seller_32 ?_
          refine ya_iload_n 1 rfl dX12_seller_33 ?_
          obtain ⟨x34, e34, h⟩ := ya_ob h
          refine ya_callVi (S := []) (c_X12_allGets hG e34) m_X12_allGets ⟨rfl, rfl⟩ ml_X12_321 rfl ⟨Nat.le_of_ble_eq_true rfl, Nat.le_of_ble_eq_true rfl⟩ (Nat.le_of_ble_eq_true rfl) (hG.lt0 83 (by decide)) (hG.o0 83 rfl) (by decide) rfl rfl ⟨Nat.le_refl _, Nat.le_refl _⟩ dX12_seller_34 rfl ?_
          refine ya_goto 86 (by decide) dX12_seller_37 ?_
          cases h
          exact ya_iret rfl rfl rfl rfl rfl (Nat.le_refl _) dX12_seller_86
      · replace h := ya_itet h c
        refine ya_sub [] [] rfl ?_
        exact hk20  h
set_option maxRecDepth 20000 in
theorem c_X12_gets {X : ya_X} {G : ya_G} {v1 : Int32} {v2 : Int32} {d : ya_D} {rr : (Int32 × ya_D)} (hG : ya_Bk ya_sh ya_ln G 0) (h : f_X12_gets v1 v2 d = some rr) : ya_Ct X yX12_gets Y_X12_gets [.ref (X.2.1 + 83), .int v1, .int v2] G d (some (.int rr.1), G, rr.2) := by
  refine ya_ct (by decide +kernel) rfl rfl (Nat.le_of_ble_eq_true rfl) ?_
  unfold f_X12_gets at h
  show ya_E X Y_X12_gets (ya_M X (some (.int rr.1), G, rr.2) 0 0) 0 [(0, .ref (X.2.1 + 83)), (1, .int v1), (2, .int v2)] [] G d 0 0
  refine ya_aload_n 0 rfl dX12_gets_0 ?_
  refine ya_iload_n 1 rfl dX12_gets_1 ?_
  obtain ⟨x2, e2, h⟩ := ya_ob h
  refine ya_callVi (S := []) (c_X12_isSeller hG e2) m_X12_isSeller ⟨rfl, rfl⟩ ml_X12_315 rfl ⟨Nat.le_of_ble_eq_true rfl, Nat.le_of_ble_eq_true rfl⟩ (Nat.le_of_ble_eq_true rfl) (hG.lt0 83 (by decide)) (hG.o0 83 rfl) (by decide) rfl rfl ⟨Nat.le_refl _, Nat.le_refl _⟩ dX12_gets_2 rfl ?_
  refine ya_j0_s h (ya_E X Y_X12_gets (ya_M X (some (.int rr.1), G, rr.2) 0 0) 17 [] [] G d 0 0) (fun h => ?_) (fun k17 hk17 h => ?_)
  · refine ya_bipush (-2) (by decide) dX12_gets_17 ?_
    cases h
    exact ya_iret rfl rfl rfl rfl rfl (Nat.le_refl _) dX12_gets_19
  · refine ya_ifeq 17 (by decide) dX12_gets_5 (fun c => ?_) (fun c => ?_)
    · replace h := ya_itet h c
      refine ya_sub [] [] rfl ?_
      exact hk17  h
    · replace h := ya_itef h c
      refine ya_aload_n 0 rfl dX12_gets_8 ?_
      refine ya_iload_n 2 rfl dX12_gets_9 ?_
      refine ya_i2l dX12_gets_10 ?_
      obtain ⟨x11, e11, h⟩ := ya_ob h
      refine ya_callVi (S := []) (c_X12_isDay hG e11) m_X12_isDay ⟨rfl, rfl⟩ ml_X12_102 rfl ⟨Nat.le_of_ble_eq_true rfl, Nat.le_of_ble_eq_true rfl⟩ (Nat.le_of_ble_eq_true rfl) (hG.lt0 83 (by decide)) (hG.o0 83 rfl) (by decide) rfl rfl ⟨Nat.le_refl _, Nat.le_refl _⟩ dX12_gets_11 rfl ?_
      refine ya_ifne 20 (by decide) dX12_gets_14 (fun c => ?_) (fun c => ?_)
      · replace h := ya_itef h c
        refine ya_aload_n 0 rfl dX12_gets_20 ?_
        refine ya_lconst 1 rfl dX12_gets_21 ?_
        obtain ⟨d22, e22, h⟩ := ya_ob h
        refine ya_callVv (S := []) (c_X12_runs hG e22) m_X12_runs ⟨rfl, rfl⟩ ml_X12_311 rfl ⟨Nat.le_of_ble_eq_true rfl, Nat.le_of_ble_eq_true rfl⟩ (Nat.le_of_ble_eq_true rfl) (hG.lt0 83 (by decide)) (hG.o0 83 rfl) (by decide) rfl rfl ⟨Nat.le_refl _, Nat.le_refl _⟩ dX12_gets_22 rfl ?_
        refine ya_aload_n 0 rfl dX12_gets_25 ?_
        refine ya_getR fo_X12_46 (hG.o0 83 rfl) (hG.lt0 83 (by decide)) (hG.l0 92 rfl) dX12_gets_26 ?_
        refine ya_iload_n 1 rfl dX12_gets_29 ?_
        refine ya_iload_n 2 rfl dX12_gets_30 ?_
        obtain ⟨x31, e31, h⟩ := ya_ob h
        refine ya_callSi (S := [.ref (X.2.1 + 94)]) (c_X12_at hG e31) m_X12_at ⟨rfl, rfl⟩ ml_X12_105 rfl ⟨Nat.le_of_ble_eq_true rfl, Nat.le_of_ble_eq_true rfl⟩ (Nat.le_of_ble_eq_true rfl) ⟨Nat.le_refl _, Nat.le_refl _⟩ dX12_gets_31 rfl ?_
        refine ya_iald (hG.s0 94 rfl) (hG.lt0 94 (by decide)) dX12_gets_34 h (fun x34 h => ?_)
        cases h
        exact ya_iret rfl rfl rfl rfl rfl (Nat.le_refl _) dX12_gets_35
      · replace h := ya_itet h c
        refine ya_sub [] [] rfl ?_
        exact hk17  h
set_option maxRecDepth 20000 in
theorem c_X12_stock {X : ya_X} {G : ya_G} {v1 : Int32} {v2 : Int32} {d : ya_D} {rr : (Int32 × ya_D)} (hG : ya_Bk ya_sh ya_ln G 0) (h : f_X12_stock v1 v2 d = some rr) : ya_Ct X yX12_stock Y_X12_stock [.ref (X.2.1 + 83), .int v1, .int v2] G d (some (.int rr.1), G, rr.2) := by
  refine ya_ct (by decide +kernel) rfl rfl (Nat.le_of_ble_eq_true rfl) ?_
  unfold f_X12_stock at h
  show ya_E X Y_X12_stock (ya_M X (some (.int rr.1), G, rr.2) 0 0) 0 [(0, .ref (X.2.1 + 83)), (1, .int v1), (2, .int v2)] [] G d 0 0
  refine ya_aload_n 0 rfl dX12_stock_0 ?_
  refine ya_iload_n 1 rfl dX12_stock_1 ?_
  obtain ⟨x2, e2, h⟩ := ya_ob h
  refine ya_callVi (S := []) (c_X12_isSeller hG e2) m_X12_isSeller ⟨rfl, rfl⟩ ml_X12_315 rfl ⟨Nat.le_of_ble_eq_true rfl, Nat.le_of_ble_eq_true rfl⟩ (Nat.le_of_ble_eq_true rfl) (hG.lt0 83 (by decide)) (hG.o0 83 rfl) (by decide) rfl rfl ⟨Nat.le_refl _, Nat.le_refl _⟩ dX12_stock_2 rfl ?_
  refine ya_j0_s h (ya_E X Y_X12_stock (ya_M X (some (.int rr.1), G, rr.2) 0 0) 17 [] [] G d 0 0) (fun h => ?_) (fun k17 hk17 h => ?_)
  · refine ya_bipush (-2) (by decide) dX12_stock_17 ?_
    cases h
    exact ya_iret rfl rfl rfl rfl rfl (Nat.le_refl _) dX12_stock_19
  · refine ya_ifeq 17 (by decide) dX12_stock_5 (fun c => ?_) (fun c => ?_)
    · replace h := ya_itet h c
      refine ya_sub [] [] rfl ?_
      exact hk17  h
    · replace h := ya_itef h c
      refine ya_aload_n 0 rfl dX12_stock_8 ?_
      refine ya_iload_n 2 rfl dX12_stock_9 ?_
      refine ya_i2l dX12_stock_10 ?_
      obtain ⟨x11, e11, h⟩ := ya_ob h
      refine ya_callVi (S := []) (c_X12_isDay hG e11) m_X12_isDay ⟨rfl, rfl⟩ ml_X12_102 rfl ⟨Nat.le_of_ble_eq_true rfl, Nat.le_of_ble_eq_true rfl⟩ (Nat.le_of_ble_eq_true rfl) (hG.lt0 83 (by decide)) (hG.o0 83 rfl) (by decide) rfl rfl ⟨Nat.le_refl _, Nat.le_refl _⟩ dX12_stock_11 rfl ?_
      refine ya_ifne 20 (by decide) dX12_stock_14 (fun c => ?_) (fun c => ?_)
      · replace h := ya_itef h c
        refine ya_aload_n 0 rfl dX12_stock_20 ?_
        refine ya_lconst 1 rfl dX12_stock_21 ?_
        obtain ⟨d22, e22, h⟩ := ya_ob h
        refine ya_callVv (S := []) (c_X12_runs hG e22) m_X12_runs ⟨rfl, rfl⟩ ml_X12_311 rfl ⟨Nat.le_of_ble_eq_true rfl, Nat.le_of_ble_eq_true rfl⟩ (Nat.le_of_ble_eq_true rfl) (hG.lt0 83 (by decide)) (hG.o0 83 rfl) (by decide) rfl rfl ⟨Nat.le_refl _, Nat.le_refl _⟩ dX12_stock_22 rfl ?_
        refine ya_aload_n 0 rfl dX12_stock_25 ?_
        refine ya_getR fo_X12_49 (hG.o0 83 rfl) (hG.lt0 83 (by decide)) (hG.l0 93 rfl) dX12_stock_26 ?_
        refine ya_iload_n 1 rfl dX12_stock_29 ?_
        refine ya_iload_n 2 rfl dX12_stock_30 ?_
        obtain ⟨x31, e31, h⟩ := ya_ob h
        refine ya_callSi (S := [.ref (X.2.1 + 95)]) (c_X12_at hG e31) m_X12_at ⟨rfl, rfl⟩ ml_X12_105 rfl ⟨Nat.le_of_ble_eq_true rfl, Nat.le_of_ble_eq_true rfl⟩ (Nat.le_of_ble_eq_true rfl) ⟨Nat.le_refl _, Nat.le_refl _⟩ dX12_stock_31 rfl ?_
        refine ya_iald (hG.s0 95 rfl) (hG.lt0 95 (by decide)) dX12_stock_34 h (fun x34 h => ?_)
        cases h
        exact ya_iret rfl rfl rfl rfl rfl (Nat.le_refl _) dX12_stock_35
      · replace h := ya_itet h c
        refine ya_sub [] [] rfl ?_
        exact hk17  h
