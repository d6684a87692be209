/-! THE WALKS of the law's methods, written by program (wip/p40/genL.py) -/
set_option maxRecDepth 100000 in
set_option maxHeartbeats 4000000 in
theorem s_L_does (l : Launch) (Γ : gw_G) (τ μ : gw_S) (o : Nat → Int64) (a1 : Int32) (a2 : Int32) (a3 : Int32) (a4 : Int32) (r : Int32 × gw_S) (hf : f_L_does τ a1 a2 a3 a4 = some r) : gw_M l yL_does [.codeWith yL_does cL_does 6 (some .int) [(0, 214, 215, 129)]] gr_L_does 4 24 Γ [.ref (gw_a Γ 0), .int a1, .int a2, .int a3, .int a4] (gw_W Γ τ μ o) (gw_qi Γ r.1 (gw_W Γ r.2 μ o)) := by
  refine gw_enterW (by decide) (Nat.le_of_ble_eq_true rfl) (fun K C E ht => ?_)
  unfold f_L_does at hf
  refine gj_iload_n C 1 dL_does_0 rfl ?_
  refine gj_if_ne C 13 dL_does_1 (by decide) (fun c => ?_) (fun c => ?_)
  · replace hf := gw_iff hf c
    refine gj_iload_n C 1 dL_does_13 rfl ?_
    refine gj_iconst (v := 1) C dL_does_14 (by decide) ?_
    refine gj_ic_ne C 27 dL_does_15 (by decide) (fun c => ?_) (fun c => ?_)
    · replace hf := gw_iff hf c
      refine gj_iload_n C 1 dL_does_27 rfl ?_
      refine gj_iconst (v := 2) C dL_does_28 (by decide) ?_
      refine gj_ic_ne C 41 dL_does_29 (by decide) (fun c => ?_) (fun c => ?_)
      · replace hf := gw_iff hf c
        refine gj_iload_n C 1 dL_does_41 rfl ?_
        refine gj_iconst (v := 3) C dL_does_42 (by decide) ?_
        refine gj_ic_ne C 55 dL_does_43 (by decide) (fun c => ?_) (fun c => ?_)
        · replace hf := gw_iff hf c
          refine gj_iload_n C 1 dL_does_55 rfl ?_
          refine gj_iconst (v := 4) C dL_does_56 (by decide) ?_
          refine gj_ic_ne C 69 dL_does_57 (by decide) (fun c => ?_) (fun c => ?_)
          · replace hf := gw_iff hf c
            refine gj_iload_n C 1 dL_does_69 rfl ?_
            refine gj_iconst (v := 5) C dL_does_70 (by decide) ?_
            refine gj_ic_ne C 83 dL_does_71 (by decide) (fun c => ?_) (fun c => ?_)
            · replace hf := gw_iff hf c
              refine gj_iload_n C 1 dL_does_83 rfl ?_
              refine gj_bipush (v := 6) C dL_does_84 (by decide) ?_
              refine gj_ic_ne C 98 dL_does_86 (by decide) (fun c => ?_) (fun c => ?_)
              · replace hf := gw_iff hf c
                refine gj_iload_n C 1 dL_does_98 rfl ?_
                refine gj_bipush (v := 7) C dL_does_99 (by decide) ?_
                refine gj_ic_ne C 115 dL_does_101 (by decide) (fun c => ?_) (fun c => ?_)
                · replace hf := gw_iff hf c
                  refine gj_iload_n C 1 dL_does_115 rfl ?_
                  refine gj_bipush (v := 8) C dL_does_116 (by decide) ?_
                  refine gj_ic_ne C 130 dL_does_118 (by decide) (fun c => ?_) (fun c => ?_)
                  · replace hf := gw_iff hf c
                    refine gj_iload_n C 1 dL_does_130 rfl ?_
                    refine gj_bipush (v := 9) C dL_does_131 (by decide) ?_
                    refine gj_ic_ne C 153 dL_does_133 (by decide) (fun c => ?_) (fun c => ?_)
                    · replace hf := gw_iff hf c
                      refine gj_iload_n C 1 dL_does_153 rfl ?_
                      refine gj_bipush (v := 10) C dL_does_154 (by decide) ?_
                      refine gj_ic_ne C 167 dL_does_156 (by decide) (fun c => ?_) (fun c => ?_)
                      · replace hf := gw_iff hf c
                        refine gj_iload_n C 1 dL_does_167 rfl ?_
                        refine gj_bipush (v := 11) C dL_does_168 (by decide) ?_
                        refine gj_ic_ne C 181 dL_does_170 (by decide) (fun c => ?_) (fun c => ?_)
                        · replace hf := gw_iff hf c
                          refine gj_iload_n C 1 dL_does_181 rfl ?_
                          refine gj_bipush (v := 12) C dL_does_182 (by decide) ?_
                          refine gj_ic_ne C 196 dL_does_184 (by decide) (fun c => ?_) (fun c => ?_)
                          · replace hf := gw_iff hf c
                            refine gj_iload_n C 1 dL_does_196 rfl ?_
                            refine gj_bipush (v := 13) C dL_does_197 (by decide) ?_
                            refine gj_ic_ne C 210 dL_does_199 (by decide) (fun c => ?_) (fun c => ?_)
                            · replace hf := gw_iff hf c
                              refine gj_aload_n C 0 dL_does_210 rfl ?_
                              replace hf := gw_bnd hf
                              obtain ⟨r1, hr1, hf⟩ := hf
                              refine gj_cVi (As := []) (rest := []) C cb_L_125 (s_X3_runExchange (gw_l K) Γ τ μ o r1 hr1) rfl (Nat.le_of_ble_eq_true rfl) gw_atM rfl rfl dL_does_211 (gw_rmk rfl) rfl ?_
                              cases hf
                              exact gj_iret C E dL_does_214 (Nat.le_of_ble_eq_true rfl) (Nat.le_of_ble_eq_true rfl)
                            · replace hf := gw_ift hf c
                              refine gj_aload_n C 0 dL_does_202 rfl ?_
                              refine gj_iload_n C 2 dL_does_203 rfl ?_
                              replace hf := gw_bnd hf
                              obtain ⟨r2, hr2, hf⟩ := hf
                              refine gj_cVI (As := [.int a2]) (rest := []) C cb_L_122 (s_X3_withdraw (gw_l K) Γ τ μ o a2 r2 hr2) rfl (Nat.le_of_ble_eq_true rfl) gw_atM rfl rfl dL_does_204 (gw_rmk rfl) rfl (fun e he => ?_) (fun y3 he => ?_)
                              · replace hf := gw_xr hf he
                                obtain ⟨hE, hf⟩ := gw_ifs hf
                                cases hf
                                subst hE
                                refine gj_catch C [] ⟨0, 214, 215, 129⟩ [] ht (fun q hq => absurd hq List.not_mem_nil) gw_gX.2.1 (by decide) (by decide) cl_L_catch (name := "java/lang/IllegalStateException") ca_IS (fun q => ?_)
                                refine gj_astore C 5 [(5, .ref q), (0, .ref (gw_a Γ 0)), (1, .int a1), (2, .int a2), (3, .int a3), (4, .int a4)] dL_does_215 (by decide) rfl ?_
                                refine gj_bipush (v := -13) C dL_does_217 (by decide) ?_
                                exact gj_iret C E dL_does_219 (Nat.le_of_ble_eq_true rfl) (Nat.le_of_ble_eq_true rfl)
                              · replace hf := gw_xl hf he
                                refine gj_goto C 214 dL_does_207 (by decide) ?_
                                cases hf
                                exact gj_iret C E dL_does_214 (Nat.le_of_ble_eq_true rfl) (Nat.le_of_ble_eq_true rfl)
                          · replace hf := gw_ift hf c
                            refine gj_aload_n C 0 dL_does_187 rfl ?_
                            refine gj_iload_n C 2 dL_does_188 rfl ?_
                            refine gj_iload_n C 3 dL_does_189 rfl ?_
                            replace hf := gw_bnd hf
                            obtain ⟨r4, hr4, hf⟩ := hf
                            refine gj_cVI (As := [.int a2, .int a3]) (rest := []) C cb_L_119 (s_X3_putUp (gw_l K) Γ τ μ o a2 a3 r4 hr4) rfl (Nat.le_of_ble_eq_true rfl) gw_atM rfl rfl dL_does_190 (gw_rmk rfl) rfl (fun e he => ?_) (fun y5 he => ?_)
                            · replace hf := gw_xr hf he
                              obtain ⟨hE, hf⟩ := gw_ifs hf
                              cases hf
                              subst hE
                              refine gj_catch C [] ⟨0, 214, 215, 129⟩ [] ht (fun q hq => absurd hq List.not_mem_nil) gw_gX.2.1 (by decide) (by decide) cl_L_catch (name := "java/lang/IllegalStateException") ca_IS (fun q => ?_)
                              refine gj_astore C 5 [(5, .ref q), (0, .ref (gw_a Γ 0)), (1, .int a1), (2, .int a2), (3, .int a3), (4, .int a4)] dL_does_215 (by decide) rfl ?_
                              refine gj_bipush (v := -13) C dL_does_217 (by decide) ?_
                              exact gj_iret C E dL_does_219 (Nat.le_of_ble_eq_true rfl) (Nat.le_of_ble_eq_true rfl)
                            · replace hf := gw_xl hf he
                              refine gj_goto C 214 dL_does_193 (by decide) ?_
                              cases hf
                              exact gj_iret C E dL_does_214 (Nat.le_of_ble_eq_true rfl) (Nat.le_of_ble_eq_true rfl)
                        · replace hf := gw_ift hf c
                          refine gj_aload_n C 0 dL_does_173 rfl ?_
                          refine gj_iload_n C 2 dL_does_174 rfl ?_
                          replace hf := gw_bnd hf
                          obtain ⟨r6, hr6, hf⟩ := hf
                          refine gj_cVI (As := [.int a2]) (rest := []) C cb_L_116 (s_X3_runLottery (gw_l K) Γ τ μ o a2 r6 hr6) rfl (Nat.le_of_ble_eq_true rfl) gw_atM rfl rfl dL_does_175 (gw_rmk rfl) rfl (fun e he => ?_) (fun y7 he => ?_)
                          · replace hf := gw_xr hf he
                            obtain ⟨hE, hf⟩ := gw_ifs hf
                            cases hf
                            subst hE
                            refine gj_catch C [] ⟨0, 214, 215, 129⟩ [] ht (fun q hq => absurd hq List.not_mem_nil) gw_gX.2.1 (by decide) (by decide) cl_L_catch (name := "java/lang/IllegalStateException") ca_IS (fun q => ?_)
                            refine gj_astore C 5 [(5, .ref q), (0, .ref (gw_a Γ 0)), (1, .int a1), (2, .int a2), (3, .int a3), (4, .int a4)] dL_does_215 (by decide) rfl ?_
                            refine gj_bipush (v := -13) C dL_does_217 (by decide) ?_
                            exact gj_iret C E dL_does_219 (Nat.le_of_ble_eq_true rfl) (Nat.le_of_ble_eq_true rfl)
                          · replace hf := gw_xl hf he
                            refine gj_goto C 214 dL_does_178 (by decide) ?_
                            cases hf
                            exact gj_iret C E dL_does_214 (Nat.le_of_ble_eq_true rfl) (Nat.le_of_ble_eq_true rfl)
                      · replace hf := gw_ift hf c
                        refine gj_aload_n C 0 dL_does_159 rfl ?_
                        refine gj_iload_n C 2 dL_does_160 rfl ?_
                        replace hf := gw_bnd hf
                        obtain ⟨r8, hr8, hf⟩ := hf
                        refine gj_cVI (As := [.int a2]) (rest := []) C cb_L_113 (s_X3_advance (gw_l K) Γ τ μ o a2 r8 hr8) rfl (Nat.le_of_ble_eq_true rfl) gw_atM rfl rfl dL_does_161 (gw_rmk rfl) rfl (fun e he => ?_) (fun y9 he => ?_)
                        · replace hf := gw_xr hf he
                          obtain ⟨hE, hf⟩ := gw_ifs hf
                          cases hf
                          subst hE
                          refine gj_catch C [] ⟨0, 214, 215, 129⟩ [] ht (fun q hq => absurd hq List.not_mem_nil) gw_gX.2.1 (by decide) (by decide) cl_L_catch (name := "java/lang/IllegalStateException") ca_IS (fun q => ?_)
                          refine gj_astore C 5 [(5, .ref q), (0, .ref (gw_a Γ 0)), (1, .int a1), (2, .int a2), (3, .int a3), (4, .int a4)] dL_does_215 (by decide) rfl ?_
                          refine gj_bipush (v := -13) C dL_does_217 (by decide) ?_
                          exact gj_iret C E dL_does_219 (Nat.le_of_ble_eq_true rfl) (Nat.le_of_ble_eq_true rfl)
                        · replace hf := gw_xl hf he
                          refine gj_goto C 214 dL_does_164 (by decide) ?_
                          cases hf
                          exact gj_iret C E dL_does_214 (Nat.le_of_ble_eq_true rfl) (Nat.le_of_ble_eq_true rfl)
                    · replace hf := gw_ift hf c
                      refine gj_aload_n C 0 dL_does_136 rfl ?_
                      refine gj_iload_n C 2 dL_does_137 rfl ?_
                      refine gj_iload_n C 3 dL_does_138 rfl ?_
                      replace hf := gw_bnd hf
                      obtain ⟨r10, hr10, hf⟩ := hf
                      refine gj_cVI (As := [.int a2, .int a3]) (rest := []) C cb_L_110 (s_X3_leave (gw_l K) Γ τ μ o a2 a3 r10 hr10) rfl (Nat.le_of_ble_eq_true rfl) gw_atM rfl rfl dL_does_139 (gw_rmk rfl) rfl (fun e he => ?_) (fun y11 he => ?_)
                      · replace hf := gw_xr hf he
                        obtain ⟨hE, hf⟩ := gw_ifs hf
                        cases hf
                        subst hE
                        refine gj_catch C [] ⟨0, 214, 215, 129⟩ [] ht (fun q hq => absurd hq List.not_mem_nil) gw_gX.2.1 (by decide) (by decide) cl_L_catch (name := "java/lang/IllegalStateException") ca_IS (fun q => ?_)
                        refine gj_astore C 5 [(5, .ref q), (0, .ref (gw_a Γ 0)), (1, .int a1), (2, .int a2), (3, .int a3), (4, .int a4)] dL_does_215 (by decide) rfl ?_
                        refine gj_bipush (v := -13) C dL_does_217 (by decide) ?_
                        exact gj_iret C E dL_does_219 (Nat.le_of_ble_eq_true rfl) (Nat.le_of_ble_eq_true rfl)
                      · replace hf := gw_xl hf he
                        refine gj_if_eq C 149 dL_does_142 (by decide) (fun c => ?_) (fun c => ?_)
                        · replace hf := gw_ift hf c
                          refine gj_iconst (v := 0) C dL_does_149 (by decide) ?_
                          refine gj_goto C 214 dL_does_150 (by decide) ?_
                          cases hf
                          exact gj_iret C E dL_does_214 (Nat.le_of_ble_eq_true rfl) (Nat.le_of_ble_eq_true rfl)
                        · replace hf := gw_iff hf c
                          refine gj_iconst (v := 1) C dL_does_145 (by decide) ?_
                          refine gj_goto C 214 dL_does_146 (by decide) ?_
                          cases hf
                          exact gj_iret C E dL_does_214 (Nat.le_of_ble_eq_true rfl) (Nat.le_of_ble_eq_true rfl)
                  · replace hf := gw_ift hf c
                    refine gj_aload_n C 0 dL_does_121 rfl ?_
                    refine gj_iload_n C 2 dL_does_122 rfl ?_
                    refine gj_iload_n C 3 dL_does_123 rfl ?_
                    replace hf := gw_bnd hf
                    obtain ⟨r12, hr12, hf⟩ := hf
                    refine gj_cVI (As := [.int a2, .int a3]) (rest := []) C cb_L_107 (s_X3_accept (gw_l K) Γ τ μ o a2 a3 r12 hr12) rfl (Nat.le_of_ble_eq_true rfl) gw_atM rfl rfl dL_does_124 (gw_rmk rfl) rfl (fun e he => ?_) (fun y13 he => ?_)
                    · replace hf := gw_xr hf he
                      obtain ⟨hE, hf⟩ := gw_ifs hf
                      cases hf
                      subst hE
                      refine gj_catch C [] ⟨0, 214, 215, 129⟩ [] ht (fun q hq => absurd hq List.not_mem_nil) gw_gX.2.1 (by decide) (by decide) cl_L_catch (name := "java/lang/IllegalStateException") ca_IS (fun q => ?_)
                      refine gj_astore C 5 [(5, .ref q), (0, .ref (gw_a Γ 0)), (1, .int a1), (2, .int a2), (3, .int a3), (4, .int a4)] dL_does_215 (by decide) rfl ?_
                      refine gj_bipush (v := -13) C dL_does_217 (by decide) ?_
                      exact gj_iret C E dL_does_219 (Nat.le_of_ble_eq_true rfl) (Nat.le_of_ble_eq_true rfl)
                    · replace hf := gw_xl hf he
                      refine gj_goto C 214 dL_does_127 (by decide) ?_
                      cases hf
                      exact gj_iret C E dL_does_214 (Nat.le_of_ble_eq_true rfl) (Nat.le_of_ble_eq_true rfl)
                · replace hf := gw_ift hf c
                  refine gj_aload_n C 0 dL_does_104 rfl ?_
                  refine gj_iload_n C 2 dL_does_105 rfl ?_
                  refine gj_iload_n C 3 dL_does_106 rfl ?_
                  refine gj_iload C 4 dL_does_107 rfl ?_
                  replace hf := gw_bnd hf
                  obtain ⟨r14, hr14, hf⟩ := hf
                  refine gj_cVI (As := [.int a2, .int a3, .int a4]) (rest := []) C cb_L_103 (s_X3_change (gw_l K) Γ τ μ o a2 a3 a4 r14 hr14) rfl (Nat.le_of_ble_eq_true rfl) gw_atM rfl rfl dL_does_109 (gw_rmk rfl) rfl (fun e he => ?_) (fun y15 he => ?_)
                  · replace hf := gw_xr hf he
                    obtain ⟨hE, hf⟩ := gw_ifs hf
                    cases hf
                    subst hE
                    refine gj_catch C [] ⟨0, 214, 215, 129⟩ [] ht (fun q hq => absurd hq List.not_mem_nil) gw_gX.2.1 (by decide) (by decide) cl_L_catch (name := "java/lang/IllegalStateException") ca_IS (fun q => ?_)
                    refine gj_astore C 5 [(5, .ref q), (0, .ref (gw_a Γ 0)), (1, .int a1), (2, .int a2), (3, .int a3), (4, .int a4)] dL_does_215 (by decide) rfl ?_
                    refine gj_bipush (v := -13) C dL_does_217 (by decide) ?_
                    exact gj_iret C E dL_does_219 (Nat.le_of_ble_eq_true rfl) (Nat.le_of_ble_eq_true rfl)
                  · replace hf := gw_xl hf he
                    refine gj_goto C 214 dL_does_112 (by decide) ?_
                    cases hf
                    exact gj_iret C E dL_does_214 (Nat.le_of_ble_eq_true rfl) (Nat.le_of_ble_eq_true rfl)
              · replace hf := gw_ift hf c
                refine gj_aload_n C 0 dL_does_89 rfl ?_
                refine gj_iload_n C 2 dL_does_90 rfl ?_
                refine gj_iload_n C 3 dL_does_91 rfl ?_
                replace hf := gw_bnd hf
                obtain ⟨r16, hr16, hf⟩ := hf
                refine gj_cVI (As := [.int a2, .int a3]) (rest := []) C cb_L_100 (s_X3_drop (gw_l K) Γ τ μ o a2 a3 r16 hr16) rfl (Nat.le_of_ble_eq_true rfl) gw_atM rfl rfl dL_does_92 (gw_rmk rfl) rfl (fun e he => ?_) (fun y17 he => ?_)
                · replace hf := gw_xr hf he
                  obtain ⟨hE, hf⟩ := gw_ifs hf
                  cases hf
                  subst hE
                  refine gj_catch C [] ⟨0, 214, 215, 129⟩ [] ht (fun q hq => absurd hq List.not_mem_nil) gw_gX.2.1 (by decide) (by decide) cl_L_catch (name := "java/lang/IllegalStateException") ca_IS (fun q => ?_)
                  refine gj_astore C 5 [(5, .ref q), (0, .ref (gw_a Γ 0)), (1, .int a1), (2, .int a2), (3, .int a3), (4, .int a4)] dL_does_215 (by decide) rfl ?_
                  refine gj_bipush (v := -13) C dL_does_217 (by decide) ?_
                  exact gj_iret C E dL_does_219 (Nat.le_of_ble_eq_true rfl) (Nat.le_of_ble_eq_true rfl)
                · replace hf := gw_xl hf he
                  refine gj_goto C 214 dL_does_95 (by decide) ?_
                  cases hf
                  exact gj_iret C E dL_does_214 (Nat.le_of_ble_eq_true rfl) (Nat.le_of_ble_eq_true rfl)
            · replace hf := gw_ift hf c
              refine gj_aload_n C 0 dL_does_74 rfl ?_
              refine gj_iload_n C 2 dL_does_75 rfl ?_
              refine gj_iload_n C 3 dL_does_76 rfl ?_
              replace hf := gw_bnd hf
              obtain ⟨r18, hr18, hf⟩ := hf
              refine gj_cVI (As := [.int a2, .int a3]) (rest := []) C cb_L_97 (s_X3_request (gw_l K) Γ τ μ o a2 a3 r18 hr18) rfl (Nat.le_of_ble_eq_true rfl) gw_atM rfl rfl dL_does_77 (gw_rmk rfl) rfl (fun e he => ?_) (fun y19 he => ?_)
              · replace hf := gw_xr hf he
                obtain ⟨hE, hf⟩ := gw_ifs hf
                cases hf
                subst hE
                refine gj_catch C [] ⟨0, 214, 215, 129⟩ [] ht (fun q hq => absurd hq List.not_mem_nil) gw_gX.2.1 (by decide) (by decide) cl_L_catch (name := "java/lang/IllegalStateException") ca_IS (fun q => ?_)
                refine gj_astore C 5 [(5, .ref q), (0, .ref (gw_a Γ 0)), (1, .int a1), (2, .int a2), (3, .int a3), (4, .int a4)] dL_does_215 (by decide) rfl ?_
                refine gj_bipush (v := -13) C dL_does_217 (by decide) ?_
                exact gj_iret C E dL_does_219 (Nat.le_of_ble_eq_true rfl) (Nat.le_of_ble_eq_true rfl)
              · replace hf := gw_xl hf he
                refine gj_goto C 214 dL_does_80 (by decide) ?_
                cases hf
                exact gj_iret C E dL_does_214 (Nat.le_of_ble_eq_true rfl) (Nat.le_of_ble_eq_true rfl)
          · replace hf := gw_ift hf c
            refine gj_aload_n C 0 dL_does_60 rfl ?_
            refine gj_iload_n C 2 dL_does_61 rfl ?_
            refine gj_iload_n C 3 dL_does_62 rfl ?_
            replace hf := gw_bnd hf
            obtain ⟨r20, hr20, hf⟩ := hf
            refine gj_cVI (As := [.int a2, .int a3]) (rest := []) C cb_L_94 (s_X3_dropWish (gw_l K) Γ τ μ o a2 a3 r20 hr20) rfl (Nat.le_of_ble_eq_true rfl) gw_atM rfl rfl dL_does_63 (gw_rmk rfl) rfl (fun e he => ?_) (fun y21 he => ?_)
            · replace hf := gw_xr hf he
              obtain ⟨hE, hf⟩ := gw_ifs hf
              cases hf
              subst hE
              refine gj_catch C [] ⟨0, 214, 215, 129⟩ [] ht (fun q hq => absurd hq List.not_mem_nil) gw_gX.2.1 (by decide) (by decide) cl_L_catch (name := "java/lang/IllegalStateException") ca_IS (fun q => ?_)
              refine gj_astore C 5 [(5, .ref q), (0, .ref (gw_a Γ 0)), (1, .int a1), (2, .int a2), (3, .int a3), (4, .int a4)] dL_does_215 (by decide) rfl ?_
              refine gj_bipush (v := -13) C dL_does_217 (by decide) ?_
              exact gj_iret C E dL_does_219 (Nat.le_of_ble_eq_true rfl) (Nat.le_of_ble_eq_true rfl)
            · replace hf := gw_xl hf he
              refine gj_goto C 214 dL_does_66 (by decide) ?_
              cases hf
              exact gj_iret C E dL_does_214 (Nat.le_of_ble_eq_true rfl) (Nat.le_of_ble_eq_true rfl)
        · replace hf := gw_ift hf c
          refine gj_aload_n C 0 dL_does_46 rfl ?_
          refine gj_iload_n C 2 dL_does_47 rfl ?_
          refine gj_iload_n C 3 dL_does_48 rfl ?_
          replace hf := gw_bnd hf
          obtain ⟨r22, hr22, hf⟩ := hf
          refine gj_cVI (As := [.int a2, .int a3]) (rest := []) C cb_L_91 (s_X3_wish (gw_l K) Γ τ μ o a2 a3 r22 hr22) rfl (Nat.le_of_ble_eq_true rfl) gw_atM rfl rfl dL_does_49 (gw_rmk rfl) rfl (fun e he => ?_) (fun y23 he => ?_)
          · replace hf := gw_xr hf he
            obtain ⟨hE, hf⟩ := gw_ifs hf
            cases hf
            subst hE
            refine gj_catch C [] ⟨0, 214, 215, 129⟩ [] ht (fun q hq => absurd hq List.not_mem_nil) gw_gX.2.1 (by decide) (by decide) cl_L_catch (name := "java/lang/IllegalStateException") ca_IS (fun q => ?_)
            refine gj_astore C 5 [(5, .ref q), (0, .ref (gw_a Γ 0)), (1, .int a1), (2, .int a2), (3, .int a3), (4, .int a4)] dL_does_215 (by decide) rfl ?_
            refine gj_bipush (v := -13) C dL_does_217 (by decide) ?_
            exact gj_iret C E dL_does_219 (Nat.le_of_ble_eq_true rfl) (Nat.le_of_ble_eq_true rfl)
          · replace hf := gw_xl hf he
            refine gj_goto C 214 dL_does_52 (by decide) ?_
            cases hf
            exact gj_iret C E dL_does_214 (Nat.le_of_ble_eq_true rfl) (Nat.le_of_ble_eq_true rfl)
      · replace hf := gw_ift hf c
        refine gj_aload_n C 0 dL_does_32 rfl ?_
        refine gj_iload_n C 2 dL_does_33 rfl ?_
        refine gj_iload_n C 3 dL_does_34 rfl ?_
        replace hf := gw_bnd hf
        obtain ⟨r24, hr24, hf⟩ := hf
        refine gj_cVI (As := [.int a2, .int a3]) (rest := []) C cb_L_88 (s_X3_pass (gw_l K) Γ τ μ o a2 a3 r24 hr24) rfl (Nat.le_of_ble_eq_true rfl) gw_atM rfl rfl dL_does_35 (gw_rmk rfl) rfl (fun e he => ?_) (fun y25 he => ?_)
        · replace hf := gw_xr hf he
          obtain ⟨hE, hf⟩ := gw_ifs hf
          cases hf
          subst hE
          refine gj_catch C [] ⟨0, 214, 215, 129⟩ [] ht (fun q hq => absurd hq List.not_mem_nil) gw_gX.2.1 (by decide) (by decide) cl_L_catch (name := "java/lang/IllegalStateException") ca_IS (fun q => ?_)
          refine gj_astore C 5 [(5, .ref q), (0, .ref (gw_a Γ 0)), (1, .int a1), (2, .int a2), (3, .int a3), (4, .int a4)] dL_does_215 (by decide) rfl ?_
          refine gj_bipush (v := -13) C dL_does_217 (by decide) ?_
          exact gj_iret C E dL_does_219 (Nat.le_of_ble_eq_true rfl) (Nat.le_of_ble_eq_true rfl)
        · replace hf := gw_xl hf he
          refine gj_goto C 214 dL_does_38 (by decide) ?_
          cases hf
          exact gj_iret C E dL_does_214 (Nat.le_of_ble_eq_true rfl) (Nat.le_of_ble_eq_true rfl)
    · replace hf := gw_ift hf c
      refine gj_aload_n C 0 dL_does_18 rfl ?_
      refine gj_iload_n C 2 dL_does_19 rfl ?_
      refine gj_iload_n C 3 dL_does_20 rfl ?_
      replace hf := gw_bnd hf
      obtain ⟨r26, hr26, hf⟩ := hf
      refine gj_cVI (As := [.int a2, .int a3]) (rest := []) C cb_L_85 (s_X3_addPrerequisite (gw_l K) Γ τ μ o a2 a3 r26 hr26) rfl (Nat.le_of_ble_eq_true rfl) gw_atM rfl rfl dL_does_21 (gw_rmk rfl) rfl (fun e he => ?_) (fun y27 he => ?_)
      · replace hf := gw_xr hf he
        obtain ⟨hE, hf⟩ := gw_ifs hf
        cases hf
        subst hE
        refine gj_catch C [] ⟨0, 214, 215, 129⟩ [] ht (fun q hq => absurd hq List.not_mem_nil) gw_gX.2.1 (by decide) (by decide) cl_L_catch (name := "java/lang/IllegalStateException") ca_IS (fun q => ?_)
        refine gj_astore C 5 [(5, .ref q), (0, .ref (gw_a Γ 0)), (1, .int a1), (2, .int a2), (3, .int a3), (4, .int a4)] dL_does_215 (by decide) rfl ?_
        refine gj_bipush (v := -13) C dL_does_217 (by decide) ?_
        exact gj_iret C E dL_does_219 (Nat.le_of_ble_eq_true rfl) (Nat.le_of_ble_eq_true rfl)
      · replace hf := gw_xl hf he
        refine gj_goto C 214 dL_does_24 (by decide) ?_
        cases hf
        exact gj_iret C E dL_does_214 (Nat.le_of_ble_eq_true rfl) (Nat.le_of_ble_eq_true rfl)
  · replace hf := gw_ift hf c
    refine gj_aload_n C 0 dL_does_4 rfl ?_
    refine gj_iload_n C 2 dL_does_5 rfl ?_
    refine gj_iload_n C 3 dL_does_6 rfl ?_
    replace hf := gw_bnd hf
    obtain ⟨r28, hr28, hf⟩ := hf
    refine gj_cVI (As := [.int a2, .int a3]) (rest := []) C cb_L_79 (s_X3_setSeats (gw_l K) Γ τ μ o a2 a3 r28 hr28) rfl (Nat.le_of_ble_eq_true rfl) gw_atM rfl rfl dL_does_7 (gw_rmk rfl) rfl (fun e he => ?_) (fun y29 he => ?_)
    · replace hf := gw_xr hf he
      obtain ⟨hE, hf⟩ := gw_ifs hf
      cases hf
      subst hE
      refine gj_catch C [] ⟨0, 214, 215, 129⟩ [] ht (fun q hq => absurd hq List.not_mem_nil) gw_gX.2.1 (by decide) (by decide) cl_L_catch (name := "java/lang/IllegalStateException") ca_IS (fun q => ?_)
      refine gj_astore C 5 [(5, .ref q), (0, .ref (gw_a Γ 0)), (1, .int a1), (2, .int a2), (3, .int a3), (4, .int a4)] dL_does_215 (by decide) rfl ?_
      refine gj_bipush (v := -13) C dL_does_217 (by decide) ?_
      exact gj_iret C E dL_does_219 (Nat.le_of_ble_eq_true rfl) (Nat.le_of_ble_eq_true rfl)
    · replace hf := gw_xl hf he
      refine gj_goto C 214 dL_does_10 (by decide) ?_
      cases hf
      exact gj_iret C E dL_does_214 (Nat.le_of_ble_eq_true rfl) (Nat.le_of_ble_eq_true rfl)
set_option maxRecDepth 100000 in
set_option maxHeartbeats 4000000 in
theorem s_L_books (l : Launch) (Γ : gw_G) (hz : gw_z Γ = 0) (τ μ : gw_S) (o : Nat → Int64) (a4 : Int32) (a5 : Int32) (a6 : Int32) (a7 : Int32) (r : Int32 × gw_S × (Nat → Int64)) (hf : f_L_books μ o a4 a5 a6 a7 = some r) : gw_M l yL_books [.code yL_books cL_books 9 (some .int)] gr_L_books 1 8 Γ [.ref (gw_a Γ 132), .ref (gw_a Γ 133), .ref (gw_a Γ 135), .ref (gw_a Γ 134), .int a4, .int a5, .int a6, .int a7] (gw_W Γ τ μ o) (gw_qi Γ r.1 (gw_W Γ τ r.2.1 r.2.2)) := by
  refine gw_enter (by decide) (Nat.le_of_ble_eq_true rfl) (fun K C E => ?_)
  unfold f_L_books at hf
  refine gj_iload C 4 dL_books_0 rfl ?_
  by_cases c4 : a4 = 0
  · replace hf := gw_ift hf c4
    refine gj_tableIn C 72 dL_books_2 (by rw [c4]; decide) (by rw [c4]; decide) (by rw [c4]; rfl) (by decide) ?_
    refine gj_aload_n C 0 dL_books_72 rfl ?_
    refine gj_bipush (v := 8) C dL_books_73 (by decide) ?_
    refine gj_iload C 5 dL_books_75 rfl ?_
    refine gj_imul C dL_books_77 ?_
    obtain ⟨g1, hf⟩ := gw_ifs hf
    refine gj_bld (j := 0) C (by decide) (gw_ibv g1) dL_books_78 ?_
    refine gj_istore C 8 [(8, .int (μ 0 ((8 : Int32) * a5).toNatClampNeg)), (0, .ref (gw_a Γ 132)), (1, .ref (gw_a Γ 133)), (2, .ref (gw_a Γ 135)), (3, .ref (gw_a Γ 134)), (4, .int a4), (5, .int a5), (6, .int a6), (7, .int a7)] dL_books_79 (by decide) rfl ?_
    refine gj_iload C 7 dL_books_81 rfl ?_
    refine gj_iload C 0 dL_books_83 rfl ?_
    refine gj_aload_n C 1 dL_books_85 rfl ?_
    refine gj_aload_n C 2 dL_books_86 rfl ?_
    refine gj_iload C 6 dL_books_87 rfl ?_
    replace hf := gw_bnd hf
    obtain ⟨r2, hr2, hf⟩ := hf
    refine gj_cSi (As := [.ref (gw_a Γ 132), .ref (gw_a Γ 133), .int a5]) (rest := [.int (μ 0 ((8 : Int32) * a5).toNatClampNeg), .int a6]) C cb_L_33 (s_L_free (gw_l K) Γ τ μ o a5 r2 hr2) rfl (Nat.le_of_ble_eq_true rfl) dL_books_89 (gw_rmk rfl) rfl ?_
    refine gj_isub C dL_books_92 ?_
    refine gj_ic_ge C 99 dL_books_93 (by decide) (fun c => ?_) (fun c => ?_)
    · replace hf := gw_ift hf c
      refine gj_aload_n C 1 dL_books_99 rfl ?_
      refine gj_bipush (v := 8) C dL_books_100 (by decide) ?_
      refine gj_iload C 6 dL_books_102 rfl ?_
      refine gj_imul C dL_books_104 ?_
      refine gj_iload C 7 dL_books_105 rfl ?_
      obtain ⟨g3, hf⟩ := gw_ifs hf
      refine gj_bst (j := 0) C (by decide) (gw_ibv g3) dL_books_107 ?_
      refine gj_iload C 0 dL_books_108 rfl ?_
      cases hf
      exact gj_iret C E dL_books_110 (Nat.le_of_ble_eq_true rfl) (Nat.le_of_ble_eq_true rfl)
    · replace hf := gw_iff hf c
      refine gj_bipush (v := -13) C dL_books_96 (by decide) ?_
      cases hf
      exact gj_iret C E dL_books_98 (Nat.le_of_ble_eq_true rfl) (Nat.le_of_ble_eq_true rfl)
  replace hf := gw_iff hf c4
  by_cases c6 : a4 = 1
  · replace hf := gw_ift hf c6
    refine gj_tableIn C 111 dL_books_2 (by rw [c6]; decide) (by rw [c6]; decide) (by rw [c6]; rfl) (by decide) ?_
    refine gj_aload_n C 0 dL_books_111 rfl ?_
    refine gj_aload_n C 3 dL_books_112 rfl ?_
    refine gj_iload C 5 dL_books_113 rfl ?_
    refine gj_iload C 6 dL_books_115 rfl ?_
    replace hf := gw_bnd hf
    obtain ⟨r5, hr5, hf⟩ := hf
    refine gj_cSi (As := [.ref (gw_a Γ 132), .ref (gw_a Γ 134), .int a5, .int a6]) (rest := []) C cb_L_131 (s_L_requires (gw_l K) Γ τ μ o a5 a6 r5 hr5) rfl (Nat.le_of_ble_eq_true rfl) dL_books_117 (gw_rmk rfl) rfl ?_
    cases hf
    exact gj_iret C E dL_books_120 (Nat.le_of_ble_eq_true rfl) (Nat.le_of_ble_eq_true rfl)
  replace hf := gw_iff hf c6
  by_cases c8 : a4 = 2
  · replace hf := gw_ift hf c8
    refine gj_tableIn C 121 dL_books_2 (by rw [c8]; decide) (by rw [c8]; decide) (by rw [c8]; rfl) (by decide) ?_
    refine gj_aload_n C 0 dL_books_121 rfl ?_
    refine gj_aload_n C 1 dL_books_122 rfl ?_
    refine gj_aload_n C 2 dL_books_123 rfl ?_
    refine gj_iload C 5 dL_books_124 rfl ?_
    refine gj_iload C 6 dL_books_126 rfl ?_
    replace hf := gw_bnd hf
    obtain ⟨r7, hr7, hf⟩ := hf
    refine gj_cSi (As := [.ref (gw_a Γ 132), .ref (gw_a Γ 133), .ref (gw_a Γ 135), .int a5, .int a6]) (rest := []) C cb_L_134 (s_L_passes (gw_l K) Γ τ μ o a5 a6 r7 hr7) rfl (Nat.le_of_ble_eq_true rfl) dL_books_128 (gw_rmk rfl) rfl ?_
    cases hf
    exact gj_iret C E dL_books_131 (Nat.le_of_ble_eq_true rfl) (Nat.le_of_ble_eq_true rfl)
  replace hf := gw_iff hf c8
  by_cases c10 : a4 = 3
  · replace hf := gw_ift hf c10
    refine gj_tableIn C 132 dL_books_2 (by rw [c10]; decide) (by rw [c10]; decide) (by rw [c10]; rfl) (by decide) ?_
    refine gj_aload_n C 1 dL_books_132 rfl ?_
    refine gj_iload C 5 dL_books_133 rfl ?_
    refine gj_iload C 6 dL_books_135 rfl ?_
    replace hf := gw_bnd hf
    obtain ⟨r9, hr9, hf⟩ := hf
    refine gj_cSi (As := [.ref (gw_a Γ 133), .int a5, .int a6]) (rest := []) C cb_L_138 (s_L_wishes (gw_l K) Γ τ μ o a5 a6 r9 hr9) rfl (Nat.le_of_ble_eq_true rfl) dL_books_137 (gw_rmk rfl) rfl ?_
    cases hf
    exact gj_iret C E dL_books_140 (Nat.le_of_ble_eq_true rfl) (Nat.le_of_ble_eq_true rfl)
  replace hf := gw_iff hf c10
  by_cases c16 : a4 = 4
  · replace hf := gw_ift hf c16
    refine gj_tableIn C 141 dL_books_2 (by rw [c16]; decide) (by rw [c16]; decide) (by rw [c16]; rfl) (by decide) ?_
    refine gj_aload_n C 1 dL_books_141 rfl ?_
    refine gj_bipush (v := 8) C dL_books_142 (by decide) ?_
    refine gj_iload C 5 dL_books_144 rfl ?_
    refine gj_imul C dL_books_146 ?_
    refine gj_iconst (v := 4) C dL_books_147 (by decide) ?_
    refine gj_iadd C dL_books_148 ?_
    obtain ⟨g11, hf⟩ := gw_ifs hf
    refine gj_bld (j := 1) C (by decide) (gw_ibv g11) dL_books_149 ?_
    refine gj_i2l C dL_books_150 ?_
    refine gj_iload C 6 dL_books_151 rfl ?_
    replace hf := gw_bnd hf
    obtain ⟨r12, hr12, hf⟩ := hf
    refine gj_cSi (As := [.long ((μ 1 (((8 : Int32) * a5) + (4 : Int32)).toNatClampNeg).toInt64), .int a6]) (rest := []) C cb_L_9 (s_L_place (gw_l K) Γ τ μ o ((μ 1 (((8 : Int32) * a5) + (4 : Int32)).toNatClampNeg).toInt64) a6 r12 hr12) rfl (Nat.le_of_ble_eq_true rfl) dL_books_153 (gw_rmk rfl) rfl ?_
    refine gj_if_ge C 162 dL_books_156 (by decide) (fun c => ?_) (fun c => ?_)
    · replace hf := gw_ift hf c
      refine gj_aload_n C 1 dL_books_162 rfl ?_
      refine gj_iload C 5 dL_books_163 rfl ?_
      refine gj_iload C 6 dL_books_165 rfl ?_
      replace hf := gw_bnd hf
      obtain ⟨r13, hr13, hf⟩ := hf
      refine gj_cSv (As := [.ref (gw_a Γ 133), .int a5, .int a6]) (rest := []) C cb_L_45 (s_L_unwishes (gw_l K) Γ τ μ o a5 a6 r13 hr13) rfl (Nat.le_of_ble_eq_true rfl) dL_books_167 (gw_rmk rfl) rfl ?_
      refine gj_aload_n C 1 dL_books_170 rfl ?_
      refine gj_bipush (v := 8) C dL_books_171 (by decide) ?_
      refine gj_iload C 5 dL_books_173 rfl ?_
      refine gj_imul C dL_books_175 ?_
      refine gj_iconst (v := 4) C dL_books_176 (by decide) ?_
      refine gj_iadd C dL_books_177 ?_
      obtain ⟨g14, hf⟩ := gw_ifs hf
      refine gj_bld (j := 1) C (by decide) (gw_ibv g14) dL_books_178 ?_
      refine gj_i2l C dL_books_179 ?_
      replace hf := gw_bnd hf
      obtain ⟨r15, hr15, hf⟩ := hf
      refine gj_cSi (As := [.long ((r13.1 1 (((8 : Int32) * a5) + (4 : Int32)).toNatClampNeg).toInt64)]) (rest := []) C cb_L_53 (s_L_length (gw_l K) Γ τ r13.1 r13.2 ((r13.1 1 (((8 : Int32) * a5) + (4 : Int32)).toNatClampNeg).toInt64) r15 hr15) rfl (Nat.le_of_ble_eq_true rfl) dL_books_180 (gw_rmk rfl) rfl ?_
      cases hf
      exact gj_iret C E dL_books_183 (Nat.le_of_ble_eq_true rfl) (Nat.le_of_ble_eq_true rfl)
    · replace hf := gw_iff hf c
      refine gj_bipush (v := -13) C dL_books_159 (by decide) ?_
      cases hf
      exact gj_iret C E dL_books_161 (Nat.le_of_ble_eq_true rfl) (Nat.le_of_ble_eq_true rfl)
  replace hf := gw_iff hf c16
  by_cases c18 : a4 = 5
  · replace hf := gw_ift hf c18
    refine gj_tableIn C 184 dL_books_2 (by rw [c18]; decide) (by rw [c18]; decide) (by rw [c18]; rfl) (by decide) ?_
    refine gj_aload_n C 0 dL_books_184 rfl ?_
    refine gj_aload_n C 1 dL_books_185 rfl ?_
    refine gj_aload_n C 2 dL_books_186 rfl ?_
    refine gj_iload C 5 dL_books_187 rfl ?_
    refine gj_iload C 6 dL_books_189 rfl ?_
    replace hf := gw_bnd hf
    obtain ⟨r17, hr17, hf⟩ := hf
    refine gj_cSi (As := [.ref (gw_a Γ 132), .ref (gw_a Γ 133), .ref (gw_a Γ 135), .int a5, .int a6]) (rest := []) C cb_L_142 (s_L_asks (gw_l K) Γ τ μ o a5 a6 r17 hr17) rfl (Nat.le_of_ble_eq_true rfl) dL_books_191 (gw_rmk rfl) rfl ?_
    cases hf
    exact gj_iret C E dL_books_194 (Nat.le_of_ble_eq_true rfl) (Nat.le_of_ble_eq_true rfl)
  replace hf := gw_iff hf c18
  by_cases c20 : a4 = 6
  · replace hf := gw_ift hf c20
    refine gj_tableIn C 195 dL_books_2 (by rw [c20]; decide) (by rw [c20]; decide) (by rw [c20]; rfl) (by decide) ?_
    refine gj_aload_n C 0 dL_books_195 rfl ?_
    refine gj_aload_n C 1 dL_books_196 rfl ?_
    refine gj_iload C 5 dL_books_197 rfl ?_
    refine gj_iload C 6 dL_books_199 rfl ?_
    replace hf := gw_bnd hf
    obtain ⟨r19, hr19, hf⟩ := hf
    refine gj_cSi (As := [.ref (gw_a Γ 132), .ref (gw_a Γ 133), .int a5, .int a6]) (rest := []) C cb_L_145 (s_L_drops (gw_l K) Γ τ μ o a5 a6 r19 hr19) rfl (Nat.le_of_ble_eq_true rfl) dL_books_201 (gw_rmk rfl) rfl ?_
    cases hf
    exact gj_iret C E dL_books_204 (Nat.le_of_ble_eq_true rfl) (Nat.le_of_ble_eq_true rfl)
  replace hf := gw_iff hf c20
  by_cases c22 : a4 = 7
  · replace hf := gw_ift hf c22
    refine gj_tableIn C 205 dL_books_2 (by rw [c22]; decide) (by rw [c22]; decide) (by rw [c22]; rfl) (by decide) ?_
    refine gj_aload_n C 0 dL_books_205 rfl ?_
    refine gj_aload_n C 1 dL_books_206 rfl ?_
    refine gj_aload_n C 2 dL_books_207 rfl ?_
    refine gj_iload C 5 dL_books_208 rfl ?_
    refine gj_iload C 6 dL_books_210 rfl ?_
    refine gj_iload C 7 dL_books_212 rfl ?_
    replace hf := gw_bnd hf
    obtain ⟨r21, hr21, hf⟩ := hf
    refine gj_cSi (As := [.ref (gw_a Γ 132), .ref (gw_a Γ 133), .ref (gw_a Γ 135), .int a5, .int a6, .int a7]) (rest := []) C cb_L_148 (s_L_changes (gw_l K) Γ τ μ o a5 a6 a7 r21 hr21) rfl (Nat.le_of_ble_eq_true rfl) dL_books_214 (gw_rmk rfl) rfl ?_
    cases hf
    exact gj_iret C E dL_books_217 (Nat.le_of_ble_eq_true rfl) (Nat.le_of_ble_eq_true rfl)
  replace hf := gw_iff hf c22
  by_cases c24 : a4 = 8
  · replace hf := gw_ift hf c24
    refine gj_tableIn C 218 dL_books_2 (by rw [c24]; decide) (by rw [c24]; decide) (by rw [c24]; rfl) (by decide) ?_
    refine gj_aload_n C 0 dL_books_218 rfl ?_
    refine gj_aload_n C 1 dL_books_219 rfl ?_
    refine gj_aload_n C 2 dL_books_220 rfl ?_
    refine gj_iload C 5 dL_books_221 rfl ?_
    refine gj_iload C 6 dL_books_223 rfl ?_
    replace hf := gw_bnd hf
    obtain ⟨r23, hr23, hf⟩ := hf
    refine gj_cSi (As := [.ref (gw_a Γ 132), .ref (gw_a Γ 133), .ref (gw_a Γ 135), .int a5, .int a6]) (rest := []) C cb_L_152 (s_L_accepts (gw_l K) Γ τ μ o a5 a6 r23 hr23) rfl (Nat.le_of_ble_eq_true rfl) dL_books_225 (gw_rmk rfl) rfl ?_
    cases hf
    exact gj_iret C E dL_books_228 (Nat.le_of_ble_eq_true rfl) (Nat.le_of_ble_eq_true rfl)
  replace hf := gw_iff hf c24
  by_cases c31 : a4 = 9
  · replace hf := gw_ift hf c31
    refine gj_tableIn C 229 dL_books_2 (by rw [c31]; decide) (by rw [c31]; decide) (by rw [c31]; rfl) (by decide) ?_
    refine gj_aload_n C 2 dL_books_229 rfl ?_
    refine gj_iload C 6 dL_books_230 rfl ?_
    obtain ⟨g25, hf⟩ := gw_ifs hf
    refine gj_lald C (gw_ibv g25) dL_books_232 ?_
    refine gj_iload C 5 dL_books_233 rfl ?_
    replace hf := gw_bnd hf
    obtain ⟨r26, hr26, hf⟩ := hf
    refine gj_cSi (As := [.long (o a6.toNatClampNeg), .int a5]) (rest := []) C cb_L_9 (s_L_place (gw_l K) Γ τ μ o (o a6.toNatClampNeg) a5 r26 hr26) rfl (Nat.le_of_ble_eq_true rfl) dL_books_235 (gw_rmk rfl) rfl ?_
    refine gj_if_ge C 244 dL_books_238 (by decide) (fun c => ?_) (fun c => ?_)
    · replace hf := gw_ift hf c
      refine gj_aload_n C 0 dL_books_244 rfl ?_
      refine gj_iload C 6 dL_books_245 rfl ?_
      replace hf := gw_bnd hf
      obtain ⟨r27, hr27, hf⟩ := hf
      refine gj_cSi (As := [.ref (gw_a Γ 132), .int a6]) (rest := []) C cb_L_26 (s_L_offers (gw_l K) Γ τ μ o a6 r27 hr27) rfl (Nat.le_of_ble_eq_true rfl) dL_books_247 (gw_rmk rfl) rfl ?_
      refine gj_iload C 5 dL_books_250 rfl ?_
      replace hf := gw_bnd hf
      obtain ⟨r28, hr28, hf⟩ := hf
      refine gj_cSi (As := [.int r27, .int a5]) (rest := []) C cb_L_15 (s_L_has (gw_l K) Γ τ μ o r27 a5 r28 hr28) rfl (Nat.le_of_ble_eq_true rfl) dL_books_252 (gw_rmk rfl) rfl ?_
      refine gj_if_eq C 262 dL_books_255 (by decide) (fun c => ?_) (fun c => ?_)
      · replace hf := gw_ift hf c
        refine gj_iconst (v := 0) C dL_books_262 (by decide) ?_
        refine gj_istore C 8 [(8, .int (0 : Int32)), (0, .ref (gw_a Γ 132)), (1, .ref (gw_a Γ 133)), (2, .ref (gw_a Γ 135)), (3, .ref (gw_a Γ 134)), (4, .int a4), (5, .int a5), (6, .int a6), (7, .int a7)] dL_books_263 (by decide) rfl ?_
        refine gj_aload_n C 1 dL_books_265 rfl ?_
        refine gj_aload_n C 3 dL_books_266 rfl ?_
        refine gj_iload C 6 dL_books_267 rfl ?_
        refine gj_iload C 7 dL_books_269 rfl ?_
        replace hf := gw_bnd hf
        obtain ⟨r29, hr29, hf⟩ := hf
        refine gj_cSv (As := [.ref (gw_a Γ 132), .ref (gw_a Γ 135), .int a5, .int a6]) (rest := []) C cb_L_49 (s_L_leaves (gw_l K) Γ τ μ o a5 a6 r29 hr29) rfl (Nat.le_of_ble_eq_true rfl) dL_books_271 (gw_rmk rfl) rfl ?_
        refine gj_iload C 0 dL_books_274 rfl ?_
        cases hf
        exact gj_iret C E dL_books_276 (Nat.le_of_ble_eq_true rfl) (Nat.le_of_ble_eq_true rfl)
      · replace hf := gw_iff hf c
        refine gj_iconst (v := 1) C dL_books_258 (by decide) ?_
        refine gj_goto C 263 dL_books_259 (by decide) ?_
        refine gj_istore C 8 [(8, .int (1 : Int32)), (0, .ref (gw_a Γ 132)), (1, .ref (gw_a Γ 133)), (2, .ref (gw_a Γ 135)), (3, .ref (gw_a Γ 134)), (4, .int a4), (5, .int a5), (6, .int a6), (7, .int a7)] dL_books_263 (by decide) rfl ?_
        refine gj_aload_n C 1 dL_books_265 rfl ?_
        refine gj_aload_n C 3 dL_books_266 rfl ?_
        refine gj_iload C 6 dL_books_267 rfl ?_
        refine gj_iload C 7 dL_books_269 rfl ?_
        replace hf := gw_bnd hf
        obtain ⟨r30, hr30, hf⟩ := hf
        refine gj_cSv (As := [.ref (gw_a Γ 132), .ref (gw_a Γ 135), .int a5, .int a6]) (rest := []) C cb_L_49 (s_L_leaves (gw_l K) Γ τ μ o a5 a6 r30 hr30) rfl (Nat.le_of_ble_eq_true rfl) dL_books_271 (gw_rmk rfl) rfl ?_
        refine gj_iload C 0 dL_books_274 rfl ?_
        cases hf
        exact gj_iret C E dL_books_276 (Nat.le_of_ble_eq_true rfl) (Nat.le_of_ble_eq_true rfl)
    · replace hf := gw_iff hf c
      refine gj_bipush (v := -13) C dL_books_241 (by decide) ?_
      cases hf
      exact gj_iret C E dL_books_243 (Nat.le_of_ble_eq_true rfl) (Nat.le_of_ble_eq_true rfl)
  replace hf := gw_iff hf c31
  by_cases c33 : a4 = 10
  · replace hf := gw_ift hf c33
    refine gj_tableIn C 277 dL_books_2 (by rw [c33]; decide) (by rw [c33]; decide) (by rw [c33]; rfl) (by decide) ?_
    refine gj_aload_n C 0 dL_books_277 rfl ?_
    refine gj_aload_n C 1 dL_books_278 rfl ?_
    refine gj_aload_n C 2 dL_books_279 rfl ?_
    refine gj_aload_n C 3 dL_books_280 rfl ?_
    refine gj_iload C 5 dL_books_281 rfl ?_
    replace hf := gw_bnd hf
    obtain ⟨r32, hr32, hf⟩ := hf
    refine gj_cSi (As := [.ref (gw_a Γ 132), .ref (gw_a Γ 133), .ref (gw_a Γ 135), .ref (gw_a Γ 134), .int a5]) (rest := []) C cb_L_155 (s_L_goesOn (gw_l K) Γ τ μ o a5 r32 hr32) rfl (Nat.le_of_ble_eq_true rfl) dL_books_283 (gw_rmk rfl) rfl ?_
    cases hf
    exact gj_iret C E dL_books_286 (Nat.le_of_ble_eq_true rfl) (Nat.le_of_ble_eq_true rfl)
  replace hf := gw_iff hf c33
  by_cases c35 : a4 = 11
  · replace hf := gw_ift hf c35
    refine gj_tableIn C 287 dL_books_2 (by rw [c35]; decide) (by rw [c35]; decide) (by rw [c35]; rfl) (by decide) ?_
    refine gj_aload_n C 0 dL_books_287 rfl ?_
    refine gj_aload_n C 1 dL_books_288 rfl ?_
    refine gj_aload_n C 2 dL_books_289 rfl ?_
    refine gj_aload_n C 3 dL_books_290 rfl ?_
    refine gj_iload C 5 dL_books_291 rfl ?_
    replace hf := gw_bnd hf
    obtain ⟨r34, hr34, hf⟩ := hf
    refine gj_cSi (As := [.ref (gw_a Γ 132), .ref (gw_a Γ 133), .ref (gw_a Γ 135), .ref (gw_a Γ 134), .int a5]) (rest := []) C cb_L_159 (s_L_draws (gw_l K) Γ τ μ o a5 r34 hr34) rfl (Nat.le_of_ble_eq_true rfl) dL_books_293 (gw_rmk rfl) rfl ?_
    cases hf
    exact gj_iret C E dL_books_296 (Nat.le_of_ble_eq_true rfl) (Nat.le_of_ble_eq_true rfl)
  replace hf := gw_iff hf c35
  by_cases c40 : a4 = 12
  · replace hf := gw_ift hf c40
    refine gj_tableIn C 297 dL_books_2 (by rw [c40]; decide) (by rw [c40]; decide) (by rw [c40]; rfl) (by decide) ?_
    refine gj_aload_n C 1 dL_books_297 rfl ?_
    refine gj_bipush (v := 8) C dL_books_298 (by decide) ?_
    refine gj_iload C 5 dL_books_300 rfl ?_
    refine gj_imul C dL_books_302 ?_
    refine gj_iconst (v := 3) C dL_books_303 (by decide) ?_
    refine gj_iadd C dL_books_304 ?_
    obtain ⟨g36, hf⟩ := gw_ifs hf
    refine gj_bld (j := 1) C (by decide) (gw_ibv g36) dL_books_305 ?_
    refine gj_iload C 6 dL_books_306 rfl ?_
    replace hf := gw_bnd hf
    obtain ⟨r37, hr37, hf⟩ := hf
    refine gj_cSi (As := [.int (μ 1 (((8 : Int32) * a5) + (3 : Int32)).toNatClampNeg), .int a6]) (rest := []) C cb_L_15 (s_L_has (gw_l K) Γ τ μ o (μ 1 (((8 : Int32) * a5) + (3 : Int32)).toNatClampNeg) a6 r37 hr37) rfl (Nat.le_of_ble_eq_true rfl) dL_books_308 (gw_rmk rfl) rfl ?_
    refine gj_if_ne C 317 dL_books_311 (by decide) (fun c => ?_) (fun c => ?_)
    · replace hf := gw_iff hf c
      refine gj_aload_n C 1 dL_books_317 rfl ?_
      refine gj_bipush (v := 8) C dL_books_318 (by decide) ?_
      refine gj_iload C 5 dL_books_320 rfl ?_
      refine gj_imul C dL_books_322 ?_
      refine gj_iconst (v := 5) C dL_books_323 (by decide) ?_
      refine gj_iadd C dL_books_324 ?_
      obtain ⟨g38, hf⟩ := gw_ifs hf
      refine gj_bld (j := 1) C (by decide) (gw_ibv g38) dL_books_325 ?_
      refine gj_istore C 8 [(8, .int (μ 1 (((8 : Int32) * a5) + (5 : Int32)).toNatClampNeg)), (0, .ref (gw_a Γ 132)), (1, .ref (gw_a Γ 133)), (2, .ref (gw_a Γ 135)), (3, .ref (gw_a Γ 134)), (4, .int a4), (5, .int a5), (6, .int a6), (7, .int a7)] dL_books_326 (by decide) rfl ?_
      refine gj_aload_n C 2 dL_books_328 rfl ?_
      refine gj_bipush (v := 8) C dL_books_329 (by decide) ?_
      refine gj_iload C 6 dL_books_331 rfl ?_
      refine gj_imul C dL_books_333 ?_
      refine gj_iconst (v := 5) C dL_books_334 (by decide) ?_
      refine gj_iadd C dL_books_335 ?_
      refine gj_iload C 7 dL_books_336 rfl ?_
      obtain ⟨g39, hf⟩ := gw_ifs hf
      refine gj_bst (j := 1) C (by decide) (gw_ibv g39) dL_books_338 ?_
      refine gj_iload C 0 dL_books_339 rfl ?_
      cases hf
      exact gj_iret C E dL_books_341 (Nat.le_of_ble_eq_true rfl) (Nat.le_of_ble_eq_true rfl)
    · replace hf := gw_ift hf c
      refine gj_bipush (v := -13) C dL_books_314 (by decide) ?_
      cases hf
      exact gj_iret C E dL_books_316 (Nat.le_of_ble_eq_true rfl) (Nat.le_of_ble_eq_true rfl)
  replace hf := gw_iff hf c40
  by_cases c43 : a4 = 13
  · replace hf := gw_ift hf c43
    refine gj_tableIn C 342 dL_books_2 (by rw [c43]; decide) (by rw [c43]; decide) (by rw [c43]; rfl) (by decide) ?_
    refine gj_aload_n C 1 dL_books_342 rfl ?_
    refine gj_bipush (v := 8) C dL_books_343 (by decide) ?_
    refine gj_iload C 5 dL_books_345 rfl ?_
    refine gj_imul C dL_books_347 ?_
    refine gj_iconst (v := 5) C dL_books_348 (by decide) ?_
    refine gj_iadd C dL_books_349 ?_
    obtain ⟨g41, hf⟩ := gw_ifs hf
    refine gj_bld (j := 1) C (by decide) (gw_ibv g41) dL_books_350 ?_
    refine gj_istore C 8 [(8, .int (μ 1 (((8 : Int32) * a5) + (5 : Int32)).toNatClampNeg)), (0, .ref (gw_a Γ 132)), (1, .ref (gw_a Γ 133)), (2, .ref (gw_a Γ 135)), (3, .ref (gw_a Γ 134)), (4, .int a4), (5, .int a5), (6, .int a6), (7, .int a7)] dL_books_351 (by decide) rfl ?_
    refine gj_aload_n C 2 dL_books_353 rfl ?_
    refine gj_bipush (v := 8) C dL_books_354 (by decide) ?_
    refine gj_iload C 6 dL_books_356 rfl ?_
    refine gj_imul C dL_books_358 ?_
    refine gj_iconst (v := 5) C dL_books_359 (by decide) ?_
    refine gj_iadd C dL_books_360 ?_
    refine gj_iconst (v := -1) C dL_books_361 (by decide) ?_
    obtain ⟨g42, hf⟩ := gw_ifs hf
    refine gj_bst (j := 1) C (by decide) (gw_ibv g42) dL_books_362 ?_
    refine gj_iload C 0 dL_books_363 rfl ?_
    cases hf
    exact gj_iret C E dL_books_365 (Nat.le_of_ble_eq_true rfl) (Nat.le_of_ble_eq_true rfl)
  replace hf := gw_iff hf c43
  obtain ⟨hd, hf⟩ := gw_ifs hf
  refine gj_tableOut C 366 dL_books_2 hd (by decide) ?_
  refine gj_aload_n C 0 dL_books_366 rfl ?_
  refine gj_aload_n C 1 dL_books_367 rfl ?_
  refine gj_aload_n C 2 dL_books_368 rfl ?_
  refine gj_aload_n C 3 dL_books_369 rfl ?_
  replace hf := gw_bnd hf
  obtain ⟨r44, hr44, hf⟩ := hf
  refine gj_cSi (As := [.ref (gw_a Γ 132), .ref (gw_a Γ 133), .ref (gw_a Γ 135), .ref (gw_a Γ 134)]) (rest := []) C cb_L_162 (s_L_swaps (gw_l K) Γ hz τ μ o r44 hr44) rfl (Nat.le_of_ble_eq_true rfl) dL_books_370 (gw_rmk rfl) rfl ?_
  cases hf
  exact gj_iret C E dL_books_373 (Nat.le_of_ble_eq_true rfl) (Nat.le_of_ble_eq_true rfl)
set_option maxRecDepth 100000 in
set_option maxHeartbeats 4000000 in
theorem l_L_level_2 {K : gw_K} {Γ : gw_G} (C : gw_C K Γ cL_level 6 RL) (τ : gw_S) (μ : gw_S) (o : Nat → Int64) (v1 : Int32) (v2 : Int32) (v3 : Int32) : ∀ (n : Nat) (v4 : Int32) (v5 : Int32) (T : Int32 × Int32), gw_it (b_L_level_2 μ o v1 v2 v3) n (v4, v5) = some T → gw_J K Γ gr_L_level 0 0 (gw_W Γ τ μ o) 60 [(0, .ref (gw_a Γ 132)), (1, .int v1), (2, .int v2), (3, .int v3), (4, .int T.1), (5, .int T.2)] [] → gw_J K Γ gr_L_level 0 0 (gw_W Γ τ μ o) 18 [(0, .ref (gw_a Γ 132)), (1, .int v1), (2, .int v2), (3, .int v3), (4, .int v4), (5, .int v5)] [] := by
  intro n
  induction n with
  | zero => intro v4 v5 T h; cases h
  | succ n ih =>
    intro v4 v5 T h k
    obtain ⟨q, hf, hr⟩ := gw_it_s h
    rw [b_L_level_2] at hf
    refine gj_iload C 5 dL_level_18 rfl ?_
    refine gj_bipush (v := 8) C dL_level_20 (by decide) ?_
    refine gj_ic_ge C 60 dL_level_22 (by decide) (fun c => ?_) (fun c => ?_)
    · replace hf := gw_ift hf c
      cases hf
      cases gw_ir hr
      exact gj_pick [0, 1, 2, 3, 4, 5] _ rfl k
    · replace hf := gw_iff hf c
      refine gj_iload C 4 dL_level_25 rfl ?_
      refine gj_aload_n C 0 dL_level_27 rfl ?_
      refine gj_bipush (v := 8) C dL_level_28 (by decide) ?_
      refine gj_iload C 5 dL_level_30 rfl ?_
      refine gj_imul C dL_level_32 ?_
      refine gj_iconst (v := 3) C dL_level_33 (by decide) ?_
      refine gj_iadd C dL_level_34 ?_
      obtain ⟨g2, hf⟩ := gw_ifs hf
      refine gj_bld (j := 0) C (by decide) (gw_ibv g2) dL_level_35 ?_
      refine gj_iload_n C 2 dL_level_36 rfl ?_
      refine gj_iconst (v := -1) C dL_level_37 (by decide) ?_
      refine gj_ixor C dL_level_38 ?_
      refine gj_iand C dL_level_39 ?_
      refine gj_if_ne C 50 dL_level_40 (by decide) (fun c => ?_) (fun c => ?_)
      · replace hf := gw_iff hf c
        refine gj_iconst (v := 0) C dL_level_50 (by decide) ?_
        refine gj_ior C dL_level_51 ?_
        refine gj_istore C 4 [(4, .int (v4 ||| (0 : Int32))), (0, .ref (gw_a Γ 132)), (1, .int v1), (2, .int v2), (3, .int v3), (5, .int v5)] dL_level_52 (by decide) rfl ?_
        refine gj_iinc C 5 5 (v5 + 1) [(5, .int (v5 + 1)), (4, .int (v4 ||| (0 : Int32))), (0, .ref (gw_a Γ 132)), (1, .int v1), (2, .int v2), (3, .int v3)] dL_level_54 rfl rfl (by decide) rfl ?_
        refine gj_goto C 18 dL_level_57 (by decide) ?_
        cases hf
        replace hr := gw_il hr
        exact gj_pick [2, 3, 4, 5, 1, 0] _ rfl (ih _ _ _ hr k)
      · replace hf := gw_ift hf c
        refine gj_iconst (v := 1) C dL_level_43 (by decide) ?_
        refine gj_iload C 5 dL_level_44 rfl ?_
        refine gj_ishl C dL_level_46 ?_
        refine gj_goto C 51 dL_level_47 (by decide) ?_
        refine gj_ior C dL_level_51 ?_
        refine gj_istore C 4 [(4, .int (v4 ||| ((1 : Int32) <<< (v5 &&& 31)))), (0, .ref (gw_a Γ 132)), (1, .int v1), (2, .int v2), (3, .int v3), (5, .int v5)] dL_level_52 (by decide) rfl ?_
        refine gj_iinc C 5 5 (v5 + 1) [(5, .int (v5 + 1)), (4, .int (v4 ||| ((1 : Int32) <<< (v5 &&& 31)))), (0, .ref (gw_a Γ 132)), (1, .int v1), (2, .int v2), (3, .int v3)] dL_level_54 rfl rfl (by decide) rfl ?_
        refine gj_goto C 18 dL_level_57 (by decide) ?_
        cases hf
        replace hr := gw_il hr
        exact gj_pick [2, 3, 4, 5, 1, 0] _ rfl (ih _ _ _ hr k)
set_option maxRecDepth 100000 in
set_option maxHeartbeats 4000000 in
theorem l_L_level_1 {K : gw_K} {Γ : gw_G} (C : gw_C K Γ cL_level 6 RL) (τ : gw_S) (μ : gw_S) (o : Nat → Int64) (v1 : Int32) : ∀ (n : Nat) (v2 : Int32) (v3 : Int32) (T : Int32 × Int32), gw_it (b_L_level_1 μ o v1) n (v2, v3) = some T → gw_J K Γ gr_L_level 0 0 (gw_W Γ τ μ o) 69 [(0, .ref (gw_a Γ 132)), (1, .int v1), (2, .int T.1), (3, .int T.2)] [] → gw_J K Γ gr_L_level 0 0 (gw_W Γ τ μ o) 4 [(0, .ref (gw_a Γ 132)), (1, .int v1), (2, .int v2), (3, .int v3)] [] := by
  intro n
  induction n with
  | zero => intro v2 v3 T h; cases h
  | succ n ih =>
    intro v2 v3 T h k
    obtain ⟨q, hf, hr⟩ := gw_it_s h
    rw [b_L_level_1] at hf
    refine gj_iload_n C 2 dL_level_4 rfl ?_
    refine gj_iload_n C 1 dL_level_5 rfl ?_
    replace hf := gw_bnd hf
    obtain ⟨r1, hr1, hf⟩ := hf
    refine gj_cSi (As := [.int v2, .int v1]) (rest := []) C cb_L_15 (s_L_has (gw_l K) Γ τ μ o v2 v1 r1 hr1) rfl (Nat.le_of_ble_eq_true rfl) dL_level_6 (gw_rmk rfl) rfl ?_
    refine gj_if_ne C 69 dL_level_9 (by decide) (fun c => ?_) (fun c => ?_)
    · replace hf := gw_iff hf c
      cases hf
      cases gw_ir hr
      exact gj_pick [0, 1, 2, 3] _ rfl k
    · replace hf := gw_ift hf c
      refine gj_iload_n C 2 dL_level_12 rfl ?_
      refine gj_istore C 4 [(4, .int v2), (0, .ref (gw_a Γ 132)), (1, .int v1), (2, .int v2), (3, .int v3)] dL_level_13 (by decide) rfl ?_
      refine gj_iconst (v := 0) C dL_level_15 (by decide) ?_
      refine gj_istore C 5 [(5, .int (0 : Int32)), (4, .int v2), (0, .ref (gw_a Γ 132)), (1, .int v1), (2, .int v2), (3, .int v3)] dL_level_16 (by decide) rfl ?_
      replace hf := gw_bnd hf
      obtain ⟨t3, ht3, hf⟩ := hf
      refine gj_pick [2, 3, 4, 5, 1, 0] _ rfl (l_L_level_2 C τ μ o v1 v2 v3 _ _ _ t3 ht3 ?_)
      refine gj_iload C 4 dL_level_60 rfl ?_
      refine gj_istore_n C 2 [(2, .int t3.1), (0, .ref (gw_a Γ 132)), (1, .int v1), (3, .int v3), (4, .int t3.1), (5, .int t3.2)] dL_level_62 rfl (by decide) rfl ?_
      refine gj_iinc C 3 3 (v3 + 1) [(3, .int (v3 + 1)), (2, .int t3.1), (0, .ref (gw_a Γ 132)), (1, .int v1), (4, .int t3.1), (5, .int t3.2)] dL_level_63 rfl rfl (by decide) rfl ?_
      refine gj_goto C 4 dL_level_66 (by decide) ?_
      cases hf
      replace hr := gw_il hr
      exact gj_pick [2, 3, 1, 0] _ rfl (ih _ _ _ hr k)
set_option maxRecDepth 100000 in
set_option maxHeartbeats 4000000 in
theorem s_L_level (l : Launch) (Γ : gw_G) (τ μ : gw_S) (o : Nat → Int64) (a1 : Int32) (r : Int32) (hf : f_L_level μ o a1 = some r) : gw_M l yL_level [.code yL_level cL_level 6 (some .int)] gr_L_level 0 0 Γ [.ref (gw_a Γ 132), .int a1] (gw_W Γ τ μ o) (gw_qi Γ r (gw_W Γ τ μ o)) := by
  refine gw_enter (by decide) (Nat.le_of_ble_eq_true rfl) (fun K C E => ?_)
  unfold f_L_level at hf
  refine gj_iconst (v := 0) C dL_level_0 (by decide) ?_
  refine gj_istore_n C 2 [(2, .int (0 : Int32)), (0, .ref (gw_a Γ 132)), (1, .int a1)] dL_level_1 rfl (by decide) rfl ?_
  refine gj_iconst (v := 0) C dL_level_2 (by decide) ?_
  refine gj_istore_n C 3 [(3, .int (0 : Int32)), (2, .int (0 : Int32)), (0, .ref (gw_a Γ 132)), (1, .int a1)] dL_level_3 rfl (by decide) rfl ?_
  replace hf := gw_bnd hf
  obtain ⟨t4, ht4, hf⟩ := hf
  refine gj_pick [2, 3, 1, 0] _ rfl (l_L_level_1 C τ μ o a1 _ _ _ t4 ht4 ?_)
  refine gj_iload_n C 3 dL_level_69 rfl ?_
  refine gj_iconst (v := 1) C dL_level_70 (by decide) ?_
  refine gj_isub C dL_level_71 ?_
  cases hf
  exact gj_iret C E dL_level_72 (Nat.le_of_ble_eq_true rfl) (Nat.le_of_ble_eq_true rfl)
set_option maxRecDepth 100000 in
set_option maxHeartbeats 4000000 in
theorem l_L_areCourses_2 {K : gw_K} {Γ : gw_G} (C : gw_C K Γ cL_areCourses 8 RL) (τ : gw_S) (μ : gw_S) (o : Nat → Int64) (v6 : Int32) : ∀ (n : Nat) (v5 : Int32) (v7 : Int32) (T : Int32 × Int32), gw_it (b_L_areCourses_2 τ μ o v6) n (v5, v7) = some T → gw_J K Γ gr_L_areCourses 0 0 (gw_W Γ τ μ o) 186 [(0, .ref (gw_a Γ 0)), (1, .ref (gw_a Γ 132)), (2, .ref (gw_a Γ 133)), (3, .ref (gw_a Γ 135)), (4, .ref (gw_a Γ 134)), (5, .int T.1), (6, .int v6), (7, .int T.2)] [] → gw_J K Γ gr_L_areCourses 0 0 (gw_W Γ τ μ o) 129 [(0, .ref (gw_a Γ 0)), (1, .ref (gw_a Γ 132)), (2, .ref (gw_a Γ 133)), (3, .ref (gw_a Γ 135)), (4, .ref (gw_a Γ 134)), (5, .int v5), (6, .int v6), (7, .int v7)] [] := by
  intro n
  induction n with
  | zero => intro v5 v7 T h; cases h
  | succ n ih =>
    intro v5 v7 T h k
    obtain ⟨q, hf, hr⟩ := gw_it_s h
    rw [b_L_areCourses_2] at hf
    refine gj_iload C 7 dL_areCourses_129 rfl ?_
    refine gj_aload_n C 3 dL_areCourses_131 rfl ?_
    refine gj_iload C 6 dL_areCourses_132 rfl ?_
    obtain ⟨g7, hf⟩ := gw_ifs hf
    refine gj_lald C (gw_ibv g7) dL_areCourses_134 ?_
    replace hf := gw_bnd hf
    obtain ⟨r8, hr8, hf⟩ := hf
    refine gj_cSi (As := [.long (o v6.toNatClampNeg)]) (rest := [.int v7]) C cb_L_53 (s_L_length (gw_l K) Γ τ μ o (o v6.toNatClampNeg) r8 hr8) rfl (Nat.le_of_ble_eq_true rfl) dL_areCourses_135 (gw_rmk rfl) rfl ?_
    refine gj_ic_ge C 186 dL_areCourses_138 (by decide) (fun c => ?_) (fun c => ?_)
    · replace hf := gw_ift hf c
      cases hf
      cases gw_ir hr
      exact gj_pick [0, 1, 2, 3, 4, 5, 6, 7] _ rfl k
    · replace hf := gw_iff hf c
      refine gj_iload C 5 dL_areCourses_141 rfl ?_
      refine gj_if_eq C 186 dL_areCourses_143 (by decide) (fun c => ?_) (fun c => ?_)
      · replace hf := gw_ift hf c
        cases hf
        cases gw_ir hr
        exact gj_pick [0, 1, 2, 3, 4, 5, 6, 7] _ rfl k
      · replace hf := gw_iff hf c
        refine gj_aload_n C 0 dL_areCourses_146 rfl ?_
        refine gj_iload C 6 dL_areCourses_147 rfl ?_
        refine gj_iload C 7 dL_areCourses_149 rfl ?_
        replace hf := gw_bnd hf
        obtain ⟨r9, hr9, hf⟩ := hf
        replace hf := gw_xn hf
        obtain ⟨y10, he, hf⟩ := hf
        subst he
        refine gj_cVi (As := [.int v6, .int v7]) (rest := []) C cb_L_189 (sr_X3_waitingAt (gw_l K) Γ τ μ o v6 v7 y10 hr9) rfl (Nat.le_of_ble_eq_true rfl) gw_atM rfl rfl dL_areCourses_151 (gw_rmk rfl) rfl ?_
        refine gj_aload_n C 3 dL_areCourses_154 rfl ?_
        refine gj_iload C 6 dL_areCourses_155 rfl ?_
        obtain ⟨g11, hf⟩ := gw_ifs hf
        refine gj_lald C (gw_ibv g11) dL_areCourses_157 ?_
        refine gj_iconst (v := 4) C dL_areCourses_158 (by decide) ?_
        refine gj_iload C 7 dL_areCourses_159 rfl ?_
        refine gj_imul C dL_areCourses_161 ?_
        refine gj_lushr (v := ((o v6.toNatClampNeg).toUInt64 >>> (((4 : Int32) * v7).toInt64.toUInt64 &&& Int64.toUInt64 63)).toInt64) C dL_areCourses_162 rfl ?_
        refine gj_ldc2 (v := 15) C cst_L_7 dL_areCourses_163 ?_
        refine gj_land C dL_areCourses_166 ?_
        refine gj_l2i C dL_areCourses_167 ?_
        refine gj_iconst (v := 1) C dL_areCourses_168 (by decide) ?_
        refine gj_isub C dL_areCourses_169 ?_
        refine gj_ic_ne C 177 dL_areCourses_170 (by decide) (fun c => ?_) (fun c => ?_)
        · replace hf := gw_iff hf c
          refine gj_iconst (v := 0) C dL_areCourses_177 (by decide) ?_
          refine gj_istore C 5 [(5, .int (0 : Int32)), (0, .ref (gw_a Γ 0)), (1, .ref (gw_a Γ 132)), (2, .ref (gw_a Γ 133)), (3, .ref (gw_a Γ 135)), (4, .ref (gw_a Γ 134)), (6, .int v6), (7, .int v7)] dL_areCourses_178 (by decide) rfl ?_
          refine gj_iinc C 7 7 (v7 + 1) [(7, .int (v7 + 1)), (5, .int (0 : Int32)), (0, .ref (gw_a Γ 0)), (1, .ref (gw_a Γ 132)), (2, .ref (gw_a Γ 133)), (3, .ref (gw_a Γ 135)), (4, .ref (gw_a Γ 134)), (6, .int v6)] dL_areCourses_180 rfl rfl (by decide) rfl ?_
          refine gj_goto C 129 dL_areCourses_183 (by decide) ?_
          cases hf
          replace hr := gw_il hr
          exact gj_pick [2, 3, 4, 5, 6, 1, 7, 0] _ rfl (ih _ _ _ hr k)
        · replace hf := gw_ift hf c
          refine gj_iconst (v := 1) C dL_areCourses_173 (by decide) ?_
          refine gj_goto C 178 dL_areCourses_174 (by decide) ?_
          refine gj_istore C 5 [(5, .int (1 : Int32)), (0, .ref (gw_a Γ 0)), (1, .ref (gw_a Γ 132)), (2, .ref (gw_a Γ 133)), (3, .ref (gw_a Γ 135)), (4, .ref (gw_a Γ 134)), (6, .int v6), (7, .int v7)] dL_areCourses_178 (by decide) rfl ?_
          refine gj_iinc C 7 7 (v7 + 1) [(7, .int (v7 + 1)), (5, .int (1 : Int32)), (0, .ref (gw_a Γ 0)), (1, .ref (gw_a Γ 132)), (2, .ref (gw_a Γ 133)), (3, .ref (gw_a Γ 135)), (4, .ref (gw_a Γ 134)), (6, .int v6)] dL_areCourses_180 rfl rfl (by decide) rfl ?_
          refine gj_goto C 129 dL_areCourses_183 (by decide) ?_
          cases hf
          replace hr := gw_il hr
          exact gj_pick [2, 3, 4, 5, 6, 1, 7, 0] _ rfl (ih _ _ _ hr k)
set_option maxRecDepth 100000 in
set_option maxHeartbeats 4000000 in
theorem l_L_areCourses_1 {K : gw_K} {Γ : gw_G} (C : gw_C K Γ cL_areCourses 8 RL) (τ : gw_S) (μ : gw_S) (o : Nat → Int64) : ∀ (n : Nat) (v5 : Int32) (v6 : Int32) (T : Int32 × Int32), gw_it (b_L_areCourses_1 τ μ o) n (v5, v6) = some T → gw_J K Γ gr_L_areCourses 0 0 (gw_W Γ τ μ o) 192 [(0, .ref (gw_a Γ 0)), (1, .ref (gw_a Γ 132)), (2, .ref (gw_a Γ 133)), (3, .ref (gw_a Γ 135)), (4, .ref (gw_a Γ 134)), (5, .int T.1), (6, .int T.2)] [] → gw_J K Γ gr_L_areCourses 0 0 (gw_W Γ τ μ o) 43 [(0, .ref (gw_a Γ 0)), (1, .ref (gw_a Γ 132)), (2, .ref (gw_a Γ 133)), (3, .ref (gw_a Γ 135)), (4, .ref (gw_a Γ 134)), (5, .int v5), (6, .int v6)] [] := by
  intro n
  induction n with
  | zero => intro v5 v6 T h; cases h
  | succ n ih =>
    intro v5 v6 T h k
    obtain ⟨q, hf, hr⟩ := gw_it_s h
    rw [b_L_areCourses_1] at hf
    refine gj_iload C 6 dL_areCourses_43 rfl ?_
    refine gj_aload C 4 dL_areCourses_45 rfl ?_
    refine gj_iconst (v := 0) C dL_areCourses_47 (by decide) ?_
    obtain ⟨g3, hf⟩ := gw_ifs hf
    refine gj_bld (j := 2) C (by decide) (gw_ibv g3) dL_areCourses_48 ?_
    refine gj_ic_ge C 192 dL_areCourses_49 (by decide) (fun c => ?_) (fun c => ?_)
    · replace hf := gw_ift hf c
      cases hf
      cases gw_ir hr
      exact gj_pick [0, 1, 2, 3, 4, 5, 6] _ rfl k
    · replace hf := gw_iff hf c
      refine gj_iload C 5 dL_areCourses_52 rfl ?_
      refine gj_if_eq C 192 dL_areCourses_54 (by decide) (fun c => ?_) (fun c => ?_)
      · replace hf := gw_ift hf c
        cases hf
        cases gw_ir hr
        exact gj_pick [0, 1, 2, 3, 4, 5, 6] _ rfl k
      · replace hf := gw_iff hf c
        refine gj_aload_n C 0 dL_areCourses_57 rfl ?_
        refine gj_iload C 6 dL_areCourses_58 rfl ?_
        replace hf := gw_bnd hf
        obtain ⟨r4, hr4, hf⟩ := hf
        replace hf := gw_xn hf
        obtain ⟨y5, he, hf⟩ := hf
        subst he
        refine gj_cVi (As := [.int v6]) (rest := []) C cb_L_175 (sr_X3_enrolled (gw_l K) Γ τ μ o v6 y5 hr4) rfl (Nat.le_of_ble_eq_true rfl) gw_atM rfl rfl dL_areCourses_60 (gw_rmk rfl) rfl ?_
        refine gj_aload_n C 2 dL_areCourses_63 rfl ?_
        refine gj_iload C 6 dL_areCourses_64 rfl ?_
        replace hf := gw_bnd hf
        obtain ⟨r6, hr6, hf⟩ := hf
        refine gj_cSi (As := [.ref (gw_a Γ 133), .int v6]) (rest := [.int y5]) C cb_L_23 (s_L_inside (gw_l K) Γ τ μ o v6 r6 hr6) rfl (Nat.le_of_ble_eq_true rfl) dL_areCourses_66 (gw_rmk rfl) rfl ?_
        refine gj_ic_ne C 123 dL_areCourses_69 (by decide) (fun c => ?_) (fun c => ?_)
        · replace hf := gw_iff hf c
          refine gj_iconst (v := 0) C dL_areCourses_123 (by decide) ?_
          refine gj_istore C 5 [(5, .int (0 : Int32)), (0, .ref (gw_a Γ 0)), (1, .ref (gw_a Γ 132)), (2, .ref (gw_a Γ 133)), (3, .ref (gw_a Γ 135)), (4, .ref (gw_a Γ 134)), (6, .int v6)] dL_areCourses_124 (by decide) rfl ?_
          refine gj_iconst (v := 0) C dL_areCourses_126 (by decide) ?_
          refine gj_istore C 7 [(7, .int (0 : Int32)), (5, .int (0 : Int32)), (0, .ref (gw_a Γ 0)), (1, .ref (gw_a Γ 132)), (2, .ref (gw_a Γ 133)), (3, .ref (gw_a Γ 135)), (4, .ref (gw_a Γ 134)), (6, .int v6)] dL_areCourses_127 (by decide) rfl ?_
          replace hf := gw_bnd hf
          obtain ⟨t12, ht12, hf⟩ := hf
          refine gj_pick [2, 3, 4, 5, 6, 1, 7, 0] _ rfl (l_L_areCourses_2 C τ μ o v6 _ _ _ t12 ht12 ?_)
          refine gj_iinc C 6 6 (v6 + 1) [(6, .int (v6 + 1)), (0, .ref (gw_a Γ 0)), (1, .ref (gw_a Γ 132)), (2, .ref (gw_a Γ 133)), (3, .ref (gw_a Γ 135)), (4, .ref (gw_a Γ 134)), (5, .int t12.1), (7, .int t12.2)] dL_areCourses_186 rfl rfl (by decide) rfl ?_
          refine gj_goto C 43 dL_areCourses_189 (by decide) ?_
          cases hf
          replace hr := gw_il hr
          exact gj_pick [1, 2, 3, 4, 5, 6, 0] _ rfl (ih _ _ _ hr k)
        · replace hf := gw_ift hf c
          refine gj_aload_n C 0 dL_areCourses_72 rfl ?_
          refine gj_iload C 6 dL_areCourses_73 rfl ?_
          replace hf := gw_bnd hf
          obtain ⟨r13, hr13, hf⟩ := hf
          replace hf := gw_xn hf
          obtain ⟨y14, he, hf⟩ := hf
          subst he
          refine gj_cVi (As := [.int v6]) (rest := []) C cb_L_178 (sr_X3_freeSeats (gw_l K) Γ τ μ o v6 y14 hr13) rfl (Nat.le_of_ble_eq_true rfl) gw_atM rfl rfl dL_areCourses_75 (gw_rmk rfl) rfl ?_
          refine gj_aload_n C 1 dL_areCourses_78 rfl ?_
          refine gj_aload_n C 2 dL_areCourses_79 rfl ?_
          refine gj_iload C 6 dL_areCourses_80 rfl ?_
          replace hf := gw_bnd hf
          obtain ⟨r15, hr15, hf⟩ := hf
          refine gj_cSi (As := [.ref (gw_a Γ 132), .ref (gw_a Γ 133), .int v6]) (rest := [.int y14]) C cb_L_33 (s_L_free (gw_l K) Γ τ μ o v6 r15 hr15) rfl (Nat.le_of_ble_eq_true rfl) dL_areCourses_82 (gw_rmk rfl) rfl ?_
          refine gj_ic_ne C 123 dL_areCourses_85 (by decide) (fun c => ?_) (fun c => ?_)
          · replace hf := gw_iff hf c
            refine gj_iconst (v := 0) C dL_areCourses_123 (by decide) ?_
            refine gj_istore C 5 [(5, .int (0 : Int32)), (0, .ref (gw_a Γ 0)), (1, .ref (gw_a Γ 132)), (2, .ref (gw_a Γ 133)), (3, .ref (gw_a Γ 135)), (4, .ref (gw_a Γ 134)), (6, .int v6)] dL_areCourses_124 (by decide) rfl ?_
            refine gj_iconst (v := 0) C dL_areCourses_126 (by decide) ?_
            refine gj_istore C 7 [(7, .int (0 : Int32)), (5, .int (0 : Int32)), (0, .ref (gw_a Γ 0)), (1, .ref (gw_a Γ 132)), (2, .ref (gw_a Γ 133)), (3, .ref (gw_a Γ 135)), (4, .ref (gw_a Γ 134)), (6, .int v6)] dL_areCourses_127 (by decide) rfl ?_
            replace hf := gw_bnd hf
            obtain ⟨t16, ht16, hf⟩ := hf
            refine gj_pick [2, 3, 4, 5, 6, 1, 7, 0] _ rfl (l_L_areCourses_2 C τ μ o v6 _ _ _ t16 ht16 ?_)
            refine gj_iinc C 6 6 (v6 + 1) [(6, .int (v6 + 1)), (0, .ref (gw_a Γ 0)), (1, .ref (gw_a Γ 132)), (2, .ref (gw_a Γ 133)), (3, .ref (gw_a Γ 135)), (4, .ref (gw_a Γ 134)), (5, .int t16.1), (7, .int t16.2)] dL_areCourses_186 rfl rfl (by decide) rfl ?_
            refine gj_goto C 43 dL_areCourses_189 (by decide) ?_
            cases hf
            replace hr := gw_il hr
            exact gj_pick [1, 2, 3, 4, 5, 6, 0] _ rfl (ih _ _ _ hr k)
          · replace hf := gw_ift hf c
            refine gj_aload_n C 0 dL_areCourses_88 rfl ?_
            refine gj_iload C 6 dL_areCourses_89 rfl ?_
            replace hf := gw_bnd hf
            obtain ⟨r17, hr17, hf⟩ := hf
            replace hf := gw_xn hf
            obtain ⟨y18, he, hf⟩ := hf
            subst he
            refine gj_cVi (As := [.int v6]) (rest := []) C cb_L_181 (sr_X3_level (gw_l K) Γ τ μ o v6 y18 hr17) rfl (Nat.le_of_ble_eq_true rfl) gw_atM rfl rfl dL_areCourses_91 (gw_rmk rfl) rfl ?_
            refine gj_aload_n C 1 dL_areCourses_94 rfl ?_
            refine gj_iload C 6 dL_areCourses_95 rfl ?_
            replace hf := gw_bnd hf
            obtain ⟨r19, hr19, hf⟩ := hf
            refine gj_cSi (As := [.ref (gw_a Γ 132), .int v6]) (rest := [.int y18]) C cb_L_184 (s_L_level (gw_l K) Γ τ μ o v6 r19 hr19) rfl (Nat.le_of_ble_eq_true rfl) dL_areCourses_97 (gw_rmk rfl) rfl ?_
            refine gj_ic_ne C 123 dL_areCourses_100 (by decide) (fun c => ?_) (fun c => ?_)
            · replace hf := gw_iff hf c
              refine gj_iconst (v := 0) C dL_areCourses_123 (by decide) ?_
              refine gj_istore C 5 [(5, .int (0 : Int32)), (0, .ref (gw_a Γ 0)), (1, .ref (gw_a Γ 132)), (2, .ref (gw_a Γ 133)), (3, .ref (gw_a Γ 135)), (4, .ref (gw_a Γ 134)), (6, .int v6)] dL_areCourses_124 (by decide) rfl ?_
              refine gj_iconst (v := 0) C dL_areCourses_126 (by decide) ?_
              refine gj_istore C 7 [(7, .int (0 : Int32)), (5, .int (0 : Int32)), (0, .ref (gw_a Γ 0)), (1, .ref (gw_a Γ 132)), (2, .ref (gw_a Γ 133)), (3, .ref (gw_a Γ 135)), (4, .ref (gw_a Γ 134)), (6, .int v6)] dL_areCourses_127 (by decide) rfl ?_
              replace hf := gw_bnd hf
              obtain ⟨t20, ht20, hf⟩ := hf
              refine gj_pick [2, 3, 4, 5, 6, 1, 7, 0] _ rfl (l_L_areCourses_2 C τ μ o v6 _ _ _ t20 ht20 ?_)
              refine gj_iinc C 6 6 (v6 + 1) [(6, .int (v6 + 1)), (0, .ref (gw_a Γ 0)), (1, .ref (gw_a Γ 132)), (2, .ref (gw_a Γ 133)), (3, .ref (gw_a Γ 135)), (4, .ref (gw_a Γ 134)), (5, .int t20.1), (7, .int t20.2)] dL_areCourses_186 rfl rfl (by decide) rfl ?_
              refine gj_goto C 43 dL_areCourses_189 (by decide) ?_
              cases hf
              replace hr := gw_il hr
              exact gj_pick [1, 2, 3, 4, 5, 6, 0] _ rfl (ih _ _ _ hr k)
            · replace hf := gw_ift hf c
              refine gj_aload_n C 0 dL_areCourses_103 rfl ?_
              refine gj_iload C 6 dL_areCourses_104 rfl ?_
              replace hf := gw_bnd hf
              obtain ⟨r21, hr21, hf⟩ := hf
              replace hf := gw_xn hf
              obtain ⟨y22, he, hf⟩ := hf
              subst he
              refine gj_cVi (As := [.int v6]) (rest := []) C cb_L_186 (sr_X3_waiting (gw_l K) Γ τ μ o v6 y22 hr21) rfl (Nat.le_of_ble_eq_true rfl) gw_atM rfl rfl dL_areCourses_106 (gw_rmk rfl) rfl ?_
              refine gj_aload_n C 3 dL_areCourses_109 rfl ?_
              refine gj_iload C 6 dL_areCourses_110 rfl ?_
              obtain ⟨g23, hf⟩ := gw_ifs hf
              refine gj_lald C (gw_ibv g23) dL_areCourses_112 ?_
              replace hf := gw_bnd hf
              obtain ⟨r24, hr24, hf⟩ := hf
              refine gj_cSi (As := [.long (o v6.toNatClampNeg)]) (rest := [.int y22]) C cb_L_53 (s_L_length (gw_l K) Γ τ μ o (o v6.toNatClampNeg) r24 hr24) rfl (Nat.le_of_ble_eq_true rfl) dL_areCourses_113 (gw_rmk rfl) rfl ?_
              refine gj_ic_ne C 123 dL_areCourses_116 (by decide) (fun c => ?_) (fun c => ?_)
              · replace hf := gw_iff hf c
                refine gj_iconst (v := 0) C dL_areCourses_123 (by decide) ?_
                refine gj_istore C 5 [(5, .int (0 : Int32)), (0, .ref (gw_a Γ 0)), (1, .ref (gw_a Γ 132)), (2, .ref (gw_a Γ 133)), (3, .ref (gw_a Γ 135)), (4, .ref (gw_a Γ 134)), (6, .int v6)] dL_areCourses_124 (by decide) rfl ?_
                refine gj_iconst (v := 0) C dL_areCourses_126 (by decide) ?_
                refine gj_istore C 7 [(7, .int (0 : Int32)), (5, .int (0 : Int32)), (0, .ref (gw_a Γ 0)), (1, .ref (gw_a Γ 132)), (2, .ref (gw_a Γ 133)), (3, .ref (gw_a Γ 135)), (4, .ref (gw_a Γ 134)), (6, .int v6)] dL_areCourses_127 (by decide) rfl ?_
                replace hf := gw_bnd hf
                obtain ⟨t25, ht25, hf⟩ := hf
                refine gj_pick [2, 3, 4, 5, 6, 1, 7, 0] _ rfl (l_L_areCourses_2 C τ μ o v6 _ _ _ t25 ht25 ?_)
                refine gj_iinc C 6 6 (v6 + 1) [(6, .int (v6 + 1)), (0, .ref (gw_a Γ 0)), (1, .ref (gw_a Γ 132)), (2, .ref (gw_a Γ 133)), (3, .ref (gw_a Γ 135)), (4, .ref (gw_a Γ 134)), (5, .int t25.1), (7, .int t25.2)] dL_areCourses_186 rfl rfl (by decide) rfl ?_
                refine gj_goto C 43 dL_areCourses_189 (by decide) ?_
                cases hf
                replace hr := gw_il hr
                exact gj_pick [1, 2, 3, 4, 5, 6, 0] _ rfl (ih _ _ _ hr k)
              · replace hf := gw_ift hf c
                refine gj_iconst (v := 1) C dL_areCourses_119 (by decide) ?_
                refine gj_goto C 124 dL_areCourses_120 (by decide) ?_
                refine gj_istore C 5 [(5, .int (1 : Int32)), (0, .ref (gw_a Γ 0)), (1, .ref (gw_a Γ 132)), (2, .ref (gw_a Γ 133)), (3, .ref (gw_a Γ 135)), (4, .ref (gw_a Γ 134)), (6, .int v6)] dL_areCourses_124 (by decide) rfl ?_
                refine gj_iconst (v := 0) C dL_areCourses_126 (by decide) ?_
                refine gj_istore C 7 [(7, .int (0 : Int32)), (5, .int (1 : Int32)), (0, .ref (gw_a Γ 0)), (1, .ref (gw_a Γ 132)), (2, .ref (gw_a Γ 133)), (3, .ref (gw_a Γ 135)), (4, .ref (gw_a Γ 134)), (6, .int v6)] dL_areCourses_127 (by decide) rfl ?_
                replace hf := gw_bnd hf
                obtain ⟨t26, ht26, hf⟩ := hf
                refine gj_pick [2, 3, 4, 5, 6, 1, 7, 0] _ rfl (l_L_areCourses_2 C τ μ o v6 _ _ _ t26 ht26 ?_)
                refine gj_iinc C 6 6 (v6 + 1) [(6, .int (v6 + 1)), (0, .ref (gw_a Γ 0)), (1, .ref (gw_a Γ 132)), (2, .ref (gw_a Γ 133)), (3, .ref (gw_a Γ 135)), (4, .ref (gw_a Γ 134)), (5, .int t26.1), (7, .int t26.2)] dL_areCourses_186 rfl rfl (by decide) rfl ?_
                refine gj_goto C 43 dL_areCourses_189 (by decide) ?_
                cases hf
                replace hr := gw_il hr
                exact gj_pick [1, 2, 3, 4, 5, 6, 0] _ rfl (ih _ _ _ hr k)
set_option maxRecDepth 100000 in
set_option maxHeartbeats 4000000 in
theorem s_L_areCourses (l : Launch) (Γ : gw_G) (τ μ : gw_S) (o : Nat → Int64) (r : Int32) (hf : f_L_areCourses τ μ o = some r) : gw_M l yL_areCourses [.code yL_areCourses cL_areCourses 8 (some .boolean)] gr_L_areCourses 0 0 Γ [.ref (gw_a Γ 0), .ref (gw_a Γ 132), .ref (gw_a Γ 133), .ref (gw_a Γ 135), .ref (gw_a Γ 134)] (gw_W Γ τ μ o) (gw_qi Γ r (gw_W Γ τ μ o)) := by
  refine gw_enter (by decide) (Nat.le_of_ble_eq_true rfl) (fun K C E => ?_)
  unfold f_L_areCourses at hf
  refine gj_aload_n C 0 dL_areCourses_0 rfl ?_
  replace hf := gw_bnd hf
  obtain ⟨r1, hr1, hf⟩ := hf
  refine gj_cVi (As := []) (rest := []) C cb_L_166 (s_X3_courses (gw_l K) Γ τ μ o r1 hr1) rfl (Nat.le_of_ble_eq_true rfl) gw_atM rfl rfl dL_areCourses_1 (gw_rmk rfl) rfl ?_
  refine gj_aload C 4 dL_areCourses_4 rfl ?_
  refine gj_iconst (v := 0) C dL_areCourses_6 (by decide) ?_
  obtain ⟨g2, hf⟩ := gw_ifs hf
  refine gj_bld (j := 2) C (by decide) (gw_ibv g2) dL_areCourses_7 ?_
  refine gj_ic_ne C 37 dL_areCourses_8 (by decide) (fun c => ?_) (fun c => ?_)
  · replace hf := gw_iff hf c
    refine gj_iconst (v := 0) C dL_areCourses_37 (by decide) ?_
    refine gj_istore C 5 [(5, .int (0 : Int32)), (0, .ref (gw_a Γ 0)), (1, .ref (gw_a Γ 132)), (2, .ref (gw_a Γ 133)), (3, .ref (gw_a Γ 135)), (4, .ref (gw_a Γ 134))] dL_areCourses_38 (by decide) rfl ?_
    refine gj_iconst (v := 0) C dL_areCourses_40 (by decide) ?_
    refine gj_istore C 6 [(6, .int (0 : Int32)), (5, .int (0 : Int32)), (0, .ref (gw_a Γ 0)), (1, .ref (gw_a Γ 132)), (2, .ref (gw_a Γ 133)), (3, .ref (gw_a Γ 135)), (4, .ref (gw_a Γ 134))] dL_areCourses_41 (by decide) rfl ?_
    replace hf := gw_bnd hf
    obtain ⟨t27, ht27, hf⟩ := hf
    refine gj_pick [2, 3, 4, 5, 6, 1, 0] _ rfl (l_L_areCourses_1 C τ μ o _ _ _ t27 ht27 ?_)
    refine gj_iload C 5 dL_areCourses_192 rfl ?_
    obtain ⟨g28, hf⟩ := gw_ifs hf
    cases hf
    exact gj_zret C E (gw_nb g28) dL_areCourses_194 (Nat.le_of_ble_eq_true rfl) (Nat.le_of_ble_eq_true rfl)
  · replace hf := gw_ift hf c
    refine gj_aload_n C 0 dL_areCourses_11 rfl ?_
    replace hf := gw_bnd hf
    obtain ⟨r29, hr29, hf⟩ := hf
    refine gj_cVi (As := []) (rest := []) C cb_L_169 (s_X3_students (gw_l K) Γ τ μ o r29 hr29) rfl (Nat.le_of_ble_eq_true rfl) gw_atM rfl rfl dL_areCourses_12 (gw_rmk rfl) rfl ?_
    refine gj_aload C 4 dL_areCourses_15 rfl ?_
    refine gj_iconst (v := 1) C dL_areCourses_17 (by decide) ?_
    obtain ⟨g30, hf⟩ := gw_ifs hf
    refine gj_bld (j := 2) C (by decide) (gw_ibv g30) dL_areCourses_18 ?_
    refine gj_ic_ne C 37 dL_areCourses_19 (by decide) (fun c => ?_) (fun c => ?_)
    · replace hf := gw_iff hf c
      refine gj_iconst (v := 0) C dL_areCourses_37 (by decide) ?_
      refine gj_istore C 5 [(5, .int (0 : Int32)), (0, .ref (gw_a Γ 0)), (1, .ref (gw_a Γ 132)), (2, .ref (gw_a Γ 133)), (3, .ref (gw_a Γ 135)), (4, .ref (gw_a Γ 134))] dL_areCourses_38 (by decide) rfl ?_
      refine gj_iconst (v := 0) C dL_areCourses_40 (by decide) ?_
      refine gj_istore C 6 [(6, .int (0 : Int32)), (5, .int (0 : Int32)), (0, .ref (gw_a Γ 0)), (1, .ref (gw_a Γ 132)), (2, .ref (gw_a Γ 133)), (3, .ref (gw_a Γ 135)), (4, .ref (gw_a Γ 134))] dL_areCourses_41 (by decide) rfl ?_
      replace hf := gw_bnd hf
      obtain ⟨t31, ht31, hf⟩ := hf
      refine gj_pick [2, 3, 4, 5, 6, 1, 0] _ rfl (l_L_areCourses_1 C τ μ o _ _ _ t31 ht31 ?_)
      refine gj_iload C 5 dL_areCourses_192 rfl ?_
      obtain ⟨g32, hf⟩ := gw_ifs hf
      cases hf
      exact gj_zret C E (gw_nb g32) dL_areCourses_194 (Nat.le_of_ble_eq_true rfl) (Nat.le_of_ble_eq_true rfl)
    · replace hf := gw_ift hf c
      refine gj_aload_n C 0 dL_areCourses_22 rfl ?_
      replace hf := gw_bnd hf
      obtain ⟨r33, hr33, hf⟩ := hf
      refine gj_cVi (As := []) (rest := []) C cb_L_172 (s_X3_day (gw_l K) Γ τ μ o r33 hr33) rfl (Nat.le_of_ble_eq_true rfl) gw_atM rfl rfl dL_areCourses_23 (gw_rmk rfl) rfl ?_
      refine gj_aload C 4 dL_areCourses_26 rfl ?_
      refine gj_iconst (v := 2) C dL_areCourses_28 (by decide) ?_
      obtain ⟨g34, hf⟩ := gw_ifs hf
      refine gj_bld (j := 2) C (by decide) (gw_ibv g34) dL_areCourses_29 ?_
      refine gj_ic_ne C 37 dL_areCourses_30 (by decide) (fun c => ?_) (fun c => ?_)
      · replace hf := gw_iff hf c
        refine gj_iconst (v := 0) C dL_areCourses_37 (by decide) ?_
        refine gj_istore C 5 [(5, .int (0 : Int32)), (0, .ref (gw_a Γ 0)), (1, .ref (gw_a Γ 132)), (2, .ref (gw_a Γ 133)), (3, .ref (gw_a Γ 135)), (4, .ref (gw_a Γ 134))] dL_areCourses_38 (by decide) rfl ?_
        refine gj_iconst (v := 0) C dL_areCourses_40 (by decide) ?_
        refine gj_istore C 6 [(6, .int (0 : Int32)), (5, .int (0 : Int32)), (0, .ref (gw_a Γ 0)), (1, .ref (gw_a Γ 132)), (2, .ref (gw_a Γ 133)), (3, .ref (gw_a Γ 135)), (4, .ref (gw_a Γ 134))] dL_areCourses_41 (by decide) rfl ?_
        replace hf := gw_bnd hf
        obtain ⟨t35, ht35, hf⟩ := hf
        refine gj_pick [2, 3, 4, 5, 6, 1, 0] _ rfl (l_L_areCourses_1 C τ μ o _ _ _ t35 ht35 ?_)
        refine gj_iload C 5 dL_areCourses_192 rfl ?_
        obtain ⟨g36, hf⟩ := gw_ifs hf
        cases hf
        exact gj_zret C E (gw_nb g36) dL_areCourses_194 (Nat.le_of_ble_eq_true rfl) (Nat.le_of_ble_eq_true rfl)
      · replace hf := gw_ift hf c
        refine gj_iconst (v := 1) C dL_areCourses_33 (by decide) ?_
        refine gj_goto C 38 dL_areCourses_34 (by decide) ?_
        refine gj_istore C 5 [(5, .int (1 : Int32)), (0, .ref (gw_a Γ 0)), (1, .ref (gw_a Γ 132)), (2, .ref (gw_a Γ 133)), (3, .ref (gw_a Γ 135)), (4, .ref (gw_a Γ 134))] dL_areCourses_38 (by decide) rfl ?_
        refine gj_iconst (v := 0) C dL_areCourses_40 (by decide) ?_
        refine gj_istore C 6 [(6, .int (0 : Int32)), (5, .int (1 : Int32)), (0, .ref (gw_a Γ 0)), (1, .ref (gw_a Γ 132)), (2, .ref (gw_a Γ 133)), (3, .ref (gw_a Γ 135)), (4, .ref (gw_a Γ 134))] dL_areCourses_41 (by decide) rfl ?_
        replace hf := gw_bnd hf
        obtain ⟨t37, ht37, hf⟩ := hf
        refine gj_pick [2, 3, 4, 5, 6, 1, 0] _ rfl (l_L_areCourses_1 C τ μ o _ _ _ t37 ht37 ?_)
        refine gj_iload C 5 dL_areCourses_192 rfl ?_
        obtain ⟨g38, hf⟩ := gw_ifs hf
        cases hf
        exact gj_zret C E (gw_nb g38) dL_areCourses_194 (Nat.le_of_ble_eq_true rfl) (Nat.le_of_ble_eq_true rfl)
set_option maxRecDepth 100000 in
set_option maxHeartbeats 4000000 in
theorem l_L_areStudents_1 {K : gw_K} {Γ : gw_G} (C : gw_C K Γ cL_areStudents 9 RL) (τ : gw_S) (μ : gw_S) (o : Nat → Int64) (v4 : Int32) : ∀ (n : Nat) (v5 : Int32) (v6 : Int32) (T : Int32 × Int32), gw_it (b_L_areStudents_1 τ μ o v4) n (v5, v6) = some T → gw_J K Γ gr_L_areStudents 0 0 (gw_W Γ τ μ o) 48 [(0, .ref (gw_a Γ 0)), (1, .ref (gw_a Γ 132)), (2, .ref (gw_a Γ 133)), (3, .ref (gw_a Γ 134)), (4, .int v4), (5, .int T.1), (6, .int T.2)] [] → gw_J K Γ gr_L_areStudents 0 0 (gw_W Γ τ μ o) 9 [(0, .ref (gw_a Γ 0)), (1, .ref (gw_a Γ 132)), (2, .ref (gw_a Γ 133)), (3, .ref (gw_a Γ 134)), (4, .int v4), (5, .int v5), (6, .int v6)] [] := by
  intro n
  induction n with
  | zero => intro v5 v6 T h; cases h
  | succ n ih =>
    intro v5 v6 T h k
    obtain ⟨q, hf, hr⟩ := gw_it_s h
    rw [b_L_areStudents_1] at hf
    refine gj_iload C 6 dL_areStudents_9 rfl ?_
    refine gj_aload_n C 3 dL_areStudents_11 rfl ?_
    refine gj_iconst (v := 1) C dL_areStudents_12 (by decide) ?_
    obtain ⟨g1, hf⟩ := gw_ifs hf
    refine gj_bld (j := 2) C (by decide) (gw_ibv g1) dL_areStudents_13 ?_
    refine gj_ic_ge C 48 dL_areStudents_14 (by decide) (fun c => ?_) (fun c => ?_)
    · replace hf := gw_ift hf c
      cases hf
      cases gw_ir hr
      exact gj_pick [0, 1, 2, 3, 4, 5, 6] _ rfl k
    · replace hf := gw_iff hf c
      refine gj_iload C 5 dL_areStudents_17 rfl ?_
      refine gj_aload_n C 2 dL_areStudents_19 rfl ?_
      refine gj_bipush (v := 8) C dL_areStudents_20 (by decide) ?_
      refine gj_iload C 6 dL_areStudents_22 rfl ?_
      refine gj_imul C dL_areStudents_24 ?_
      refine gj_iconst (v := 5) C dL_areStudents_25 (by decide) ?_
      refine gj_iadd C dL_areStudents_26 ?_
      obtain ⟨g2, hf⟩ := gw_ifs hf
      refine gj_bld (j := 1) C (by decide) (gw_ibv g2) dL_areStudents_27 ?_
      refine gj_if_lt C 38 dL_areStudents_28 (by decide) (fun c => ?_) (fun c => ?_)
      · replace hf := gw_ift hf c
        refine gj_iconst (v := 0) C dL_areStudents_38 (by decide) ?_
        refine gj_ior C dL_areStudents_39 ?_
        refine gj_istore C 5 [(5, .int (v5 ||| (0 : Int32))), (0, .ref (gw_a Γ 0)), (1, .ref (gw_a Γ 132)), (2, .ref (gw_a Γ 133)), (3, .ref (gw_a Γ 134)), (4, .int v4), (6, .int v6)] dL_areStudents_40 (by decide) rfl ?_
        refine gj_iinc C 6 6 (v6 + 1) [(6, .int (v6 + 1)), (5, .int (v5 ||| (0 : Int32))), (0, .ref (gw_a Γ 0)), (1, .ref (gw_a Γ 132)), (2, .ref (gw_a Γ 133)), (3, .ref (gw_a Γ 134)), (4, .int v4)] dL_areStudents_42 rfl rfl (by decide) rfl ?_
        refine gj_goto C 9 dL_areStudents_45 (by decide) ?_
        cases hf
        replace hr := gw_il hr
        exact gj_pick [2, 3, 4, 5, 6, 1, 0] _ rfl (ih _ _ _ hr k)
      · replace hf := gw_iff hf c
        refine gj_iconst (v := 1) C dL_areStudents_31 (by decide) ?_
        refine gj_iload C 6 dL_areStudents_32 rfl ?_
        refine gj_ishl C dL_areStudents_34 ?_
        refine gj_goto C 39 dL_areStudents_35 (by decide) ?_
        refine gj_ior C dL_areStudents_39 ?_
        refine gj_istore C 5 [(5, .int (v5 ||| ((1 : Int32) <<< (v6 &&& 31)))), (0, .ref (gw_a Γ 0)), (1, .ref (gw_a Γ 132)), (2, .ref (gw_a Γ 133)), (3, .ref (gw_a Γ 134)), (4, .int v4), (6, .int v6)] dL_areStudents_40 (by decide) rfl ?_
        refine gj_iinc C 6 6 (v6 + 1) [(6, .int (v6 + 1)), (5, .int (v5 ||| ((1 : Int32) <<< (v6 &&& 31)))), (0, .ref (gw_a Γ 0)), (1, .ref (gw_a Γ 132)), (2, .ref (gw_a Γ 133)), (3, .ref (gw_a Γ 134)), (4, .int v4)] dL_areStudents_42 rfl rfl (by decide) rfl ?_
        refine gj_goto C 9 dL_areStudents_45 (by decide) ?_
        cases hf
        replace hr := gw_il hr
        exact gj_pick [2, 3, 4, 5, 6, 1, 0] _ rfl (ih _ _ _ hr k)
set_option maxRecDepth 100000 in
set_option maxHeartbeats 4000000 in
theorem l_L_areStudents_3 {K : gw_K} {Γ : gw_G} (C : gw_C K Γ cL_areStudents 9 RL) (τ : gw_S) (μ : gw_S) (o : Nat → Int64) (v5 : Int32) (v6 : Int32) (v7 : Int32) : ∀ (n : Nat) (v4 : Int32) (v8 : Int32) (T : Int32 × Int32), gw_it (b_L_areStudents_3 τ μ o v5 v6 v7) n (v4, v8) = some T → gw_J K Γ gr_L_areStudents 0 0 (gw_W Γ τ μ o) 239 [(0, .ref (gw_a Γ 0)), (1, .ref (gw_a Γ 132)), (2, .ref (gw_a Γ 133)), (3, .ref (gw_a Γ 134)), (4, .int T.1), (5, .int v5), (6, .int v6), (7, .int v7), (8, .int T.2)] [] → gw_J K Γ gr_L_areStudents 0 0 (gw_W Γ τ μ o) 187 [(0, .ref (gw_a Γ 0)), (1, .ref (gw_a Γ 132)), (2, .ref (gw_a Γ 133)), (3, .ref (gw_a Γ 134)), (4, .int v4), (5, .int v5), (6, .int v6), (7, .int v7), (8, .int v8)] [] := by
  intro n
  induction n with
  | zero => intro v4 v8 T h; cases h
  | succ n ih =>
    intro v4 v8 T h k
    obtain ⟨q, hf, hr⟩ := gw_it_s h
    rw [b_L_areStudents_3] at hf
    refine gj_iload C 8 dL_areStudents_187 rfl ?_
    refine gj_iload C 7 dL_areStudents_189 rfl ?_
    refine gj_i2l C dL_areStudents_191 ?_
    replace hf := gw_bnd hf
    obtain ⟨r10, hr10, hf⟩ := hf
    refine gj_cSi (As := [.long v7.toInt64]) (rest := [.int v8]) C cb_L_53 (s_L_length (gw_l K) Γ τ μ o v7.toInt64 r10 hr10) rfl (Nat.le_of_ble_eq_true rfl) dL_areStudents_192 (gw_rmk rfl) rfl ?_
    refine gj_ic_ge C 239 dL_areStudents_195 (by decide) (fun c => ?_) (fun c => ?_)
    · replace hf := gw_ift hf c
      cases hf
      cases gw_ir hr
      exact gj_pick [0, 1, 2, 3, 4, 5, 6, 7, 8] _ rfl k
    · replace hf := gw_iff hf c
      refine gj_iload C 4 dL_areStudents_198 rfl ?_
      refine gj_if_eq C 239 dL_areStudents_200 (by decide) (fun c => ?_) (fun c => ?_)
      · replace hf := gw_ift hf c
        cases hf
        cases gw_ir hr
        exact gj_pick [0, 1, 2, 3, 4, 5, 6, 7, 8] _ rfl k
      · replace hf := gw_iff hf c
        refine gj_aload_n C 0 dL_areStudents_203 rfl ?_
        refine gj_iload C 6 dL_areStudents_204 rfl ?_
        refine gj_iload C 8 dL_areStudents_206 rfl ?_
        replace hf := gw_bnd hf
        obtain ⟨r11, hr11, hf⟩ := hf
        replace hf := gw_xn hf
        obtain ⟨y12, he, hf⟩ := hf
        subst he
        refine gj_cVi (As := [.int v6, .int v8]) (rest := []) C cb_L_206 (sr_X3_wishAt (gw_l K) Γ τ μ o v6 v8 y12 hr11) rfl (Nat.le_of_ble_eq_true rfl) gw_atM rfl rfl dL_areStudents_208 (gw_rmk rfl) rfl ?_
        refine gj_iload C 7 dL_areStudents_211 rfl ?_
        refine gj_iconst (v := 4) C dL_areStudents_213 (by decide) ?_
        refine gj_iload C 8 dL_areStudents_214 rfl ?_
        refine gj_imul C dL_areStudents_216 ?_
        refine gj_ishr C dL_areStudents_217 ?_
        refine gj_bipush (v := 15) C dL_areStudents_218 (by decide) ?_
        refine gj_iand C dL_areStudents_220 ?_
        refine gj_iconst (v := 1) C dL_areStudents_221 (by decide) ?_
        refine gj_isub C dL_areStudents_222 ?_
        refine gj_ic_ne C 230 dL_areStudents_223 (by decide) (fun c => ?_) (fun c => ?_)
        · replace hf := gw_iff hf c
          refine gj_iconst (v := 0) C dL_areStudents_230 (by decide) ?_
          refine gj_istore C 4 [(4, .int (0 : Int32)), (0, .ref (gw_a Γ 0)), (1, .ref (gw_a Γ 132)), (2, .ref (gw_a Γ 133)), (3, .ref (gw_a Γ 134)), (5, .int v5), (6, .int v6), (7, .int v7), (8, .int v8)] dL_areStudents_231 (by decide) rfl ?_
          refine gj_iinc C 8 8 (v8 + 1) [(8, .int (v8 + 1)), (4, .int (0 : Int32)), (0, .ref (gw_a Γ 0)), (1, .ref (gw_a Γ 132)), (2, .ref (gw_a Γ 133)), (3, .ref (gw_a Γ 134)), (5, .int v5), (6, .int v6), (7, .int v7)] dL_areStudents_233 rfl rfl (by decide) rfl ?_
          refine gj_goto C 187 dL_areStudents_236 (by decide) ?_
          cases hf
          replace hr := gw_il hr
          exact gj_pick [2, 3, 4, 5, 1, 6, 7, 8, 0] _ rfl (ih _ _ _ hr k)
        · replace hf := gw_ift hf c
          refine gj_iconst (v := 1) C dL_areStudents_226 (by decide) ?_
          refine gj_goto C 231 dL_areStudents_227 (by decide) ?_
          refine gj_istore C 4 [(4, .int (1 : Int32)), (0, .ref (gw_a Γ 0)), (1, .ref (gw_a Γ 132)), (2, .ref (gw_a Γ 133)), (3, .ref (gw_a Γ 134)), (5, .int v5), (6, .int v6), (7, .int v7), (8, .int v8)] dL_areStudents_231 (by decide) rfl ?_
          refine gj_iinc C 8 8 (v8 + 1) [(8, .int (v8 + 1)), (4, .int (1 : Int32)), (0, .ref (gw_a Γ 0)), (1, .ref (gw_a Γ 132)), (2, .ref (gw_a Γ 133)), (3, .ref (gw_a Γ 134)), (5, .int v5), (6, .int v6), (7, .int v7)] dL_areStudents_233 rfl rfl (by decide) rfl ?_
          refine gj_goto C 187 dL_areStudents_236 (by decide) ?_
          cases hf
          replace hr := gw_il hr
          exact gj_pick [2, 3, 4, 5, 1, 6, 7, 8, 0] _ rfl (ih _ _ _ hr k)
set_option maxRecDepth 100000 in
set_option maxHeartbeats 4000000 in
theorem l_L_areStudents_2 {K : gw_K} {Γ : gw_G} (C : gw_C K Γ cL_areStudents 9 RL) (τ : gw_S) (μ : gw_S) (o : Nat → Int64) (v5 : Int32) : ∀ (n : Nat) (v4 : Int32) (v6 : Int32) (T : Int32 × Int32), gw_it (b_L_areStudents_2 τ μ o v5) n (v4, v6) = some T → gw_J K Γ gr_L_areStudents 0 0 (gw_W Γ τ μ o) 245 [(0, .ref (gw_a Γ 0)), (1, .ref (gw_a Γ 132)), (2, .ref (gw_a Γ 133)), (3, .ref (gw_a Γ 134)), (4, .int T.1), (5, .int v5), (6, .int T.2)] [] → gw_J K Γ gr_L_areStudents 0 0 (gw_W Γ τ μ o) 51 [(0, .ref (gw_a Γ 0)), (1, .ref (gw_a Γ 132)), (2, .ref (gw_a Γ 133)), (3, .ref (gw_a Γ 134)), (4, .int v4), (5, .int v5), (6, .int v6)] [] := by
  intro n
  induction n with
  | zero => intro v4 v6 T h; cases h
  | succ n ih =>
    intro v4 v6 T h k
    obtain ⟨q, hf, hr⟩ := gw_it_s h
    rw [b_L_areStudents_2] at hf
    refine gj_iload C 6 dL_areStudents_51 rfl ?_
    refine gj_aload_n C 3 dL_areStudents_53 rfl ?_
    refine gj_iconst (v := 1) C dL_areStudents_54 (by decide) ?_
    obtain ⟨g4, hf⟩ := gw_ifs hf
    refine gj_bld (j := 2) C (by decide) (gw_ibv g4) dL_areStudents_55 ?_
    refine gj_ic_ge C 245 dL_areStudents_56 (by decide) (fun c => ?_) (fun c => ?_)
    · replace hf := gw_ift hf c
      cases hf
      cases gw_ir hr
      exact gj_pick [0, 1, 2, 3, 4, 5, 6] _ rfl k
    · replace hf := gw_iff hf c
      refine gj_iload C 4 dL_areStudents_59 rfl ?_
      refine gj_if_eq C 245 dL_areStudents_61 (by decide) (fun c => ?_) (fun c => ?_)
      · replace hf := gw_ift hf c
        cases hf
        cases gw_ir hr
        exact gj_pick [0, 1, 2, 3, 4, 5, 6] _ rfl k
      · replace hf := gw_iff hf c
        refine gj_aload_n C 2 dL_areStudents_64 rfl ?_
        refine gj_bipush (v := 8) C dL_areStudents_65 (by decide) ?_
        refine gj_iload C 6 dL_areStudents_67 rfl ?_
        refine gj_imul C dL_areStudents_69 ?_
        refine gj_iconst (v := 4) C dL_areStudents_70 (by decide) ?_
        refine gj_iadd C dL_areStudents_71 ?_
        obtain ⟨g5, hf⟩ := gw_ifs hf
        refine gj_bld (j := 1) C (by decide) (gw_ibv g5) dL_areStudents_72 ?_
        refine gj_istore C 7 [(7, .int (μ 1 (((8 : Int32) * v6) + (4 : Int32)).toNatClampNeg)), (0, .ref (gw_a Γ 0)), (1, .ref (gw_a Γ 132)), (2, .ref (gw_a Γ 133)), (3, .ref (gw_a Γ 134)), (4, .int v4), (5, .int v5), (6, .int v6)] dL_areStudents_73 (by decide) rfl ?_
        refine gj_aload_n C 1 dL_areStudents_75 rfl ?_
        refine gj_iload C 7 dL_areStudents_76 rfl ?_
        replace hf := gw_bnd hf
        obtain ⟨r6, hr6, hf⟩ := hf
        replace hf := gw_xn hf
        obtain ⟨y7, he, hf⟩ := hf
        subst he
        refine gj_cVi (As := [.int v6]) (rest := []) C cb_L_192 (sr_X3_credits (gw_l K) Γ τ μ o v6 y7 hr6) rfl (Nat.le_of_ble_eq_true rfl) gw_atM rfl rfl dL_areStudents_78 (gw_rmk rfl) rfl ?_
        refine gj_aload_n C 2 dL_areStudents_81 rfl ?_
        refine gj_aload_n C 3 dL_areStudents_82 rfl ?_
        refine gj_bipush (v := 8) C dL_areStudents_83 (by decide) ?_
        refine gj_iload C 7 dL_areStudents_85 rfl ?_
        refine gj_imul C dL_areStudents_87 ?_
        refine gj_iconst (v := 3) C dL_areStudents_88 (by decide) ?_
        refine gj_iadd C dL_areStudents_89 ?_
        obtain ⟨g8, hf⟩ := gw_ifs hf
        refine gj_bld (j := 1) C (by decide) (gw_ibv g8) dL_areStudents_90 ?_
        replace hf := gw_bnd hf
        obtain ⟨r9, hr9, hf⟩ := hf
        refine gj_cSi (As := [.ref (gw_a Γ 132), .int (μ 1 (((8 : Int32) * v6) + (3 : Int32)).toNatClampNeg)]) (rest := [.int y7]) C cb_L_19 (s_L_worth (gw_l K) Γ τ μ o (μ 1 (((8 : Int32) * v6) + (3 : Int32)).toNatClampNeg) r9 hr9) rfl (Nat.le_of_ble_eq_true rfl) dL_areStudents_91 (gw_rmk rfl) rfl ?_
        refine gj_ic_ne C 181 dL_areStudents_94 (by decide) (fun c => ?_) (fun c => ?_)
        · replace hf := gw_iff hf c
          refine gj_iconst (v := 0) C dL_areStudents_181 (by decide) ?_
          refine gj_istore C 4 [(4, .int (0 : Int32)), (7, .int (μ 1 (((8 : Int32) * v6) + (4 : Int32)).toNatClampNeg)), (0, .ref (gw_a Γ 0)), (1, .ref (gw_a Γ 132)), (2, .ref (gw_a Γ 133)), (3, .ref (gw_a Γ 134)), (5, .int v5), (6, .int v6)] dL_areStudents_182 (by decide) rfl ?_
          refine gj_iconst (v := 0) C dL_areStudents_184 (by decide) ?_
          refine gj_istore C 8 [(8, .int (0 : Int32)), (4, .int (0 : Int32)), (7, .int (μ 1 (((8 : Int32) * v6) + (4 : Int32)).toNatClampNeg)), (0, .ref (gw_a Γ 0)), (1, .ref (gw_a Γ 132)), (2, .ref (gw_a Γ 133)), (3, .ref (gw_a Γ 134)), (5, .int v5), (6, .int v6)] dL_areStudents_185 (by decide) rfl ?_
          replace hf := gw_bnd hf
          obtain ⟨t13, ht13, hf⟩ := hf
          refine gj_pick [3, 4, 5, 6, 1, 7, 8, 2, 0] _ rfl (l_L_areStudents_3 C τ μ o v5 v6 (μ 1 (((8 : Int32) * v6) + (4 : Int32)).toNatClampNeg) _ _ _ t13 ht13 ?_)
          refine gj_iinc C 6 6 (v6 + 1) [(6, .int (v6 + 1)), (0, .ref (gw_a Γ 0)), (1, .ref (gw_a Γ 132)), (2, .ref (gw_a Γ 133)), (3, .ref (gw_a Γ 134)), (4, .int t13.1), (5, .int v5), (7, .int (μ 1 (((8 : Int32) * v6) + (4 : Int32)).toNatClampNeg)), (8, .int t13.2)] dL_areStudents_239 rfl rfl (by decide) rfl ?_
          refine gj_goto C 51 dL_areStudents_242 (by decide) ?_
          cases hf
          replace hr := gw_il hr
          exact gj_pick [1, 2, 3, 4, 5, 6, 0] _ rfl (ih _ _ _ hr k)
        · replace hf := gw_ift hf c
          refine gj_aload_n C 1 dL_areStudents_97 rfl ?_
          refine gj_iload C 7 dL_areStudents_98 rfl ?_
          replace hf := gw_bnd hf
          obtain ⟨r14, hr14, hf⟩ := hf
          replace hf := gw_xn hf
          obtain ⟨y15, he, hf⟩ := hf
          subst he
          refine gj_cVi (As := [.int v6]) (rest := []) C cb_L_195 (sr_X3_wishes (gw_l K) Γ τ μ o v6 y15 hr14) rfl (Nat.le_of_ble_eq_true rfl) gw_atM rfl rfl dL_areStudents_100 (gw_rmk rfl) rfl ?_
          refine gj_iload C 0 dL_areStudents_103 rfl ?_
          refine gj_i2l C dL_areStudents_105 ?_
          replace hf := gw_bnd hf
          obtain ⟨r16, hr16, hf⟩ := hf
          refine gj_cSi (As := [.long ((μ 1 (((8 : Int32) * v6) + (4 : Int32)).toNatClampNeg).toInt64)]) (rest := [.int y15]) C cb_L_53 (s_L_length (gw_l K) Γ τ μ o ((μ 1 (((8 : Int32) * v6) + (4 : Int32)).toNatClampNeg).toInt64) r16 hr16) rfl (Nat.le_of_ble_eq_true rfl) dL_areStudents_106 (gw_rmk rfl) rfl ?_
          refine gj_ic_ne C 181 dL_areStudents_109 (by decide) (fun c => ?_) (fun c => ?_)
          · replace hf := gw_iff hf c
            refine gj_iconst (v := 0) C dL_areStudents_181 (by decide) ?_
            refine gj_istore C 4 [(4, .int (0 : Int32)), (7, .int (μ 1 (((8 : Int32) * v6) + (4 : Int32)).toNatClampNeg)), (0, .ref (gw_a Γ 0)), (1, .ref (gw_a Γ 132)), (2, .ref (gw_a Γ 133)), (3, .ref (gw_a Γ 134)), (5, .int v5), (6, .int v6)] dL_areStudents_182 (by decide) rfl ?_
            refine gj_iconst (v := 0) C dL_areStudents_184 (by decide) ?_
            refine gj_istore C 8 [(8, .int (0 : Int32)), (4, .int (0 : Int32)), (7, .int (μ 1 (((8 : Int32) * v6) + (4 : Int32)).toNatClampNeg)), (0, .ref (gw_a Γ 0)), (1, .ref (gw_a Γ 132)), (2, .ref (gw_a Γ 133)), (3, .ref (gw_a Γ 134)), (5, .int v5), (6, .int v6)] dL_areStudents_185 (by decide) rfl ?_
            replace hf := gw_bnd hf
            obtain ⟨t17, ht17, hf⟩ := hf
            refine gj_pick [3, 4, 5, 6, 1, 7, 8, 2, 0] _ rfl (l_L_areStudents_3 C τ μ o v5 v6 (μ 1 (((8 : Int32) * v6) + (4 : Int32)).toNatClampNeg) _ _ _ t17 ht17 ?_)
            refine gj_iinc C 6 6 (v6 + 1) [(6, .int (v6 + 1)), (0, .ref (gw_a Γ 0)), (1, .ref (gw_a Γ 132)), (2, .ref (gw_a Γ 133)), (3, .ref (gw_a Γ 134)), (4, .int t17.1), (5, .int v5), (7, .int (μ 1 (((8 : Int32) * v6) + (4 : Int32)).toNatClampNeg)), (8, .int t17.2)] dL_areStudents_239 rfl rfl (by decide) rfl ?_
            refine gj_goto C 51 dL_areStudents_242 (by decide) ?_
            cases hf
            replace hr := gw_il hr
            exact gj_pick [1, 2, 3, 4, 5, 6, 0] _ rfl (ih _ _ _ hr k)
          · replace hf := gw_ift hf c
            refine gj_aload_n C 1 dL_areStudents_112 rfl ?_
            refine gj_iload C 7 dL_areStudents_113 rfl ?_
            replace hf := gw_bnd hf
            obtain ⟨r18, hr18, hf⟩ := hf
            replace hf := gw_xn hf
            obtain ⟨y19, he, hf⟩ := hf
            subst he
            refine gj_cVi (As := [.int v6]) (rest := []) C cb_L_197 (sr_X3_placeUp (gw_l K) Γ τ μ o v6 y19 hr18) rfl (Nat.le_of_ble_eq_true rfl) gw_atM rfl rfl dL_areStudents_115 (gw_rmk rfl) rfl ?_
            refine gj_aload_n C 3 dL_areStudents_118 rfl ?_
            refine gj_bipush (v := 8) C dL_areStudents_119 (by decide) ?_
            refine gj_iload C 7 dL_areStudents_121 rfl ?_
            refine gj_imul C dL_areStudents_123 ?_
            refine gj_iconst (v := 5) C dL_areStudents_124 (by decide) ?_
            refine gj_iadd C dL_areStudents_125 ?_
            obtain ⟨g20, hf⟩ := gw_ifs hf
            refine gj_bld (j := 1) C (by decide) (gw_ibv g20) dL_areStudents_126 ?_
            refine gj_ic_ne C 181 dL_areStudents_127 (by decide) (fun c => ?_) (fun c => ?_)
            · replace hf := gw_iff hf c
              refine gj_iconst (v := 0) C dL_areStudents_181 (by decide) ?_
              refine gj_istore C 4 [(4, .int (0 : Int32)), (7, .int (μ 1 (((8 : Int32) * v6) + (4 : Int32)).toNatClampNeg)), (0, .ref (gw_a Γ 0)), (1, .ref (gw_a Γ 132)), (2, .ref (gw_a Γ 133)), (3, .ref (gw_a Γ 134)), (5, .int v5), (6, .int v6)] dL_areStudents_182 (by decide) rfl ?_
              refine gj_iconst (v := 0) C dL_areStudents_184 (by decide) ?_
              refine gj_istore C 8 [(8, .int (0 : Int32)), (4, .int (0 : Int32)), (7, .int (μ 1 (((8 : Int32) * v6) + (4 : Int32)).toNatClampNeg)), (0, .ref (gw_a Γ 0)), (1, .ref (gw_a Γ 132)), (2, .ref (gw_a Γ 133)), (3, .ref (gw_a Γ 134)), (5, .int v5), (6, .int v6)] dL_areStudents_185 (by decide) rfl ?_
              replace hf := gw_bnd hf
              obtain ⟨t21, ht21, hf⟩ := hf
              refine gj_pick [3, 4, 5, 6, 1, 7, 8, 2, 0] _ rfl (l_L_areStudents_3 C τ μ o v5 v6 (μ 1 (((8 : Int32) * v6) + (4 : Int32)).toNatClampNeg) _ _ _ t21 ht21 ?_)
              refine gj_iinc C 6 6 (v6 + 1) [(6, .int (v6 + 1)), (0, .ref (gw_a Γ 0)), (1, .ref (gw_a Γ 132)), (2, .ref (gw_a Γ 133)), (3, .ref (gw_a Γ 134)), (4, .int t21.1), (5, .int v5), (7, .int (μ 1 (((8 : Int32) * v6) + (4 : Int32)).toNatClampNeg)), (8, .int t21.2)] dL_areStudents_239 rfl rfl (by decide) rfl ?_
              refine gj_goto C 51 dL_areStudents_242 (by decide) ?_
              cases hf
              replace hr := gw_il hr
              exact gj_pick [1, 2, 3, 4, 5, 6, 0] _ rfl (ih _ _ _ hr k)
            · replace hf := gw_ift hf c
              refine gj_aload_n C 1 dL_areStudents_130 rfl ?_
              refine gj_iload C 7 dL_areStudents_131 rfl ?_
              replace hf := gw_bnd hf
              obtain ⟨r22, hr22, hf⟩ := hf
              replace hf := gw_xn hf
              obtain ⟨y23, he, hf⟩ := hf
              subst he
              refine gj_cVi (As := [.int v6]) (rest := []) C cb_L_200 (sr_X3_lotteryNumber (gw_l K) Γ τ μ o v6 y23 hr22) rfl (Nat.le_of_ble_eq_true rfl) gw_atM rfl rfl dL_areStudents_133 (gw_rmk rfl) rfl ?_
              refine gj_aload_n C 3 dL_areStudents_136 rfl ?_
              refine gj_bipush (v := 8) C dL_areStudents_137 (by decide) ?_
              refine gj_iload C 7 dL_areStudents_139 rfl ?_
              refine gj_imul C dL_areStudents_141 ?_
              refine gj_bipush (v := 6) C dL_areStudents_142 (by decide) ?_
              refine gj_iadd C dL_areStudents_144 ?_
              obtain ⟨g24, hf⟩ := gw_ifs hf
              refine gj_bld (j := 1) C (by decide) (gw_ibv g24) dL_areStudents_145 ?_
              refine gj_ic_ne C 181 dL_areStudents_146 (by decide) (fun c => ?_) (fun c => ?_)
              · replace hf := gw_iff hf c
                refine gj_iconst (v := 0) C dL_areStudents_181 (by decide) ?_
                refine gj_istore C 4 [(4, .int (0 : Int32)), (7, .int (μ 1 (((8 : Int32) * v6) + (4 : Int32)).toNatClampNeg)), (0, .ref (gw_a Γ 0)), (1, .ref (gw_a Γ 132)), (2, .ref (gw_a Γ 133)), (3, .ref (gw_a Γ 134)), (5, .int v5), (6, .int v6)] dL_areStudents_182 (by decide) rfl ?_
                refine gj_iconst (v := 0) C dL_areStudents_184 (by decide) ?_
                refine gj_istore C 8 [(8, .int (0 : Int32)), (4, .int (0 : Int32)), (7, .int (μ 1 (((8 : Int32) * v6) + (4 : Int32)).toNatClampNeg)), (0, .ref (gw_a Γ 0)), (1, .ref (gw_a Γ 132)), (2, .ref (gw_a Γ 133)), (3, .ref (gw_a Γ 134)), (5, .int v5), (6, .int v6)] dL_areStudents_185 (by decide) rfl ?_
                replace hf := gw_bnd hf
                obtain ⟨t25, ht25, hf⟩ := hf
                refine gj_pick [3, 4, 5, 6, 1, 7, 8, 2, 0] _ rfl (l_L_areStudents_3 C τ μ o v5 v6 (μ 1 (((8 : Int32) * v6) + (4 : Int32)).toNatClampNeg) _ _ _ t25 ht25 ?_)
                refine gj_iinc C 6 6 (v6 + 1) [(6, .int (v6 + 1)), (0, .ref (gw_a Γ 0)), (1, .ref (gw_a Γ 132)), (2, .ref (gw_a Γ 133)), (3, .ref (gw_a Γ 134)), (4, .int t25.1), (5, .int v5), (7, .int (μ 1 (((8 : Int32) * v6) + (4 : Int32)).toNatClampNeg)), (8, .int t25.2)] dL_areStudents_239 rfl rfl (by decide) rfl ?_
                refine gj_goto C 51 dL_areStudents_242 (by decide) ?_
                cases hf
                replace hr := gw_il hr
                exact gj_pick [1, 2, 3, 4, 5, 6, 0] _ rfl (ih _ _ _ hr k)
              · replace hf := gw_ift hf c
                refine gj_iload C 6 dL_areStudents_149 rfl ?_
                refine gj_iload C 7 dL_areStudents_151 rfl ?_
                replace hf := gw_bnd hf
                obtain ⟨r26, hr26, hf⟩ := hf
                refine gj_cSi (As := [.int v5, .int v6]) (rest := []) C cb_L_15 (s_L_has (gw_l K) Γ τ μ o v5 v6 r26 hr26) rfl (Nat.le_of_ble_eq_true rfl) dL_areStudents_153 (gw_rmk rfl) rfl ?_
                refine gj_if_eq C 177 dL_areStudents_156 (by decide) (fun c => ?_) (fun c => ?_)
                · replace hf := gw_ift hf c
                  refine gj_iconst (v := 1) C dL_areStudents_177 (by decide) ?_
                  refine gj_goto C 182 dL_areStudents_178 (by decide) ?_
                  refine gj_istore C 4 [(4, .int (1 : Int32)), (7, .int (μ 1 (((8 : Int32) * v6) + (4 : Int32)).toNatClampNeg)), (0, .ref (gw_a Γ 0)), (1, .ref (gw_a Γ 132)), (2, .ref (gw_a Γ 133)), (3, .ref (gw_a Γ 134)), (5, .int v5), (6, .int v6)] dL_areStudents_182 (by decide) rfl ?_
                  refine gj_iconst (v := 0) C dL_areStudents_184 (by decide) ?_
                  refine gj_istore C 8 [(8, .int (0 : Int32)), (4, .int (1 : Int32)), (7, .int (μ 1 (((8 : Int32) * v6) + (4 : Int32)).toNatClampNeg)), (0, .ref (gw_a Γ 0)), (1, .ref (gw_a Γ 132)), (2, .ref (gw_a Γ 133)), (3, .ref (gw_a Γ 134)), (5, .int v5), (6, .int v6)] dL_areStudents_185 (by decide) rfl ?_
                  replace hf := gw_bnd hf
                  obtain ⟨t27, ht27, hf⟩ := hf
                  refine gj_pick [3, 4, 5, 6, 1, 7, 8, 2, 0] _ rfl (l_L_areStudents_3 C τ μ o v5 v6 (μ 1 (((8 : Int32) * v6) + (4 : Int32)).toNatClampNeg) _ _ _ t27 ht27 ?_)
                  refine gj_iinc C 6 6 (v6 + 1) [(6, .int (v6 + 1)), (0, .ref (gw_a Γ 0)), (1, .ref (gw_a Γ 132)), (2, .ref (gw_a Γ 133)), (3, .ref (gw_a Γ 134)), (4, .int t27.1), (5, .int v5), (7, .int (μ 1 (((8 : Int32) * v6) + (4 : Int32)).toNatClampNeg)), (8, .int t27.2)] dL_areStudents_239 rfl rfl (by decide) rfl ?_
                  refine gj_goto C 51 dL_areStudents_242 (by decide) ?_
                  cases hf
                  replace hr := gw_il hr
                  exact gj_pick [1, 2, 3, 4, 5, 6, 0] _ rfl (ih _ _ _ hr k)
                · replace hf := gw_iff hf c
                  refine gj_aload_n C 1 dL_areStudents_159 rfl ?_
                  refine gj_iload C 7 dL_areStudents_160 rfl ?_
                  replace hf := gw_bnd hf
                  obtain ⟨r28, hr28, hf⟩ := hf
                  replace hf := gw_xn hf
                  obtain ⟨y29, he, hf⟩ := hf
                  subst he
                  refine gj_cVi (As := [.int v6]) (rest := []) C cb_L_203 (sr_X3_pointsTo (gw_l K) Γ τ μ o v6 y29 hr28) rfl (Nat.le_of_ble_eq_true rfl) gw_atM rfl rfl dL_areStudents_162 (gw_rmk rfl) rfl ?_
                  refine gj_aload_n C 2 dL_areStudents_165 rfl ?_
                  refine gj_aload_n C 3 dL_areStudents_166 rfl ?_
                  refine gj_iload C 7 dL_areStudents_167 rfl ?_
                  refine gj_iload C 6 dL_areStudents_169 rfl ?_
                  replace hf := gw_bnd hf
                  obtain ⟨r30, hr30, hf⟩ := hf
                  refine gj_cSi (As := [.ref (gw_a Γ 132), .ref (gw_a Γ 133), .int v6, .int v5]) (rest := [.int y29]) C cb_L_75 (s_L_points (gw_l K) Γ τ μ o v6 v5 r30 hr30) rfl (Nat.le_of_ble_eq_true rfl) dL_areStudents_171 (gw_rmk rfl) rfl ?_
                  refine gj_ic_ne C 181 dL_areStudents_174 (by decide) (fun c => ?_) (fun c => ?_)
                  · replace hf := gw_iff hf c
                    refine gj_iconst (v := 0) C dL_areStudents_181 (by decide) ?_
                    refine gj_istore C 4 [(4, .int (0 : Int32)), (7, .int (μ 1 (((8 : Int32) * v6) + (4 : Int32)).toNatClampNeg)), (0, .ref (gw_a Γ 0)), (1, .ref (gw_a Γ 132)), (2, .ref (gw_a Γ 133)), (3, .ref (gw_a Γ 134)), (5, .int v5), (6, .int v6)] dL_areStudents_182 (by decide) rfl ?_
                    refine gj_iconst (v := 0) C dL_areStudents_184 (by decide) ?_
                    refine gj_istore C 8 [(8, .int (0 : Int32)), (4, .int (0 : Int32)), (7, .int (μ 1 (((8 : Int32) * v6) + (4 : Int32)).toNatClampNeg)), (0, .ref (gw_a Γ 0)), (1, .ref (gw_a Γ 132)), (2, .ref (gw_a Γ 133)), (3, .ref (gw_a Γ 134)), (5, .int v5), (6, .int v6)] dL_areStudents_185 (by decide) rfl ?_
                    replace hf := gw_bnd hf
                    obtain ⟨t31, ht31, hf⟩ := hf
                    refine gj_pick [3, 4, 5, 6, 1, 7, 8, 2, 0] _ rfl (l_L_areStudents_3 C τ μ o v5 v6 (μ 1 (((8 : Int32) * v6) + (4 : Int32)).toNatClampNeg) _ _ _ t31 ht31 ?_)
                    refine gj_iinc C 6 6 (v6 + 1) [(6, .int (v6 + 1)), (0, .ref (gw_a Γ 0)), (1, .ref (gw_a Γ 132)), (2, .ref (gw_a Γ 133)), (3, .ref (gw_a Γ 134)), (4, .int t31.1), (5, .int v5), (7, .int (μ 1 (((8 : Int32) * v6) + (4 : Int32)).toNatClampNeg)), (8, .int t31.2)] dL_areStudents_239 rfl rfl (by decide) rfl ?_
                    refine gj_goto C 51 dL_areStudents_242 (by decide) ?_
                    cases hf
                    replace hr := gw_il hr
                    exact gj_pick [1, 2, 3, 4, 5, 6, 0] _ rfl (ih _ _ _ hr k)
                  · replace hf := gw_ift hf c
                    refine gj_iconst (v := 1) C dL_areStudents_177 (by decide) ?_
                    refine gj_goto C 182 dL_areStudents_178 (by decide) ?_
                    refine gj_istore C 4 [(4, .int (1 : Int32)), (7, .int (μ 1 (((8 : Int32) * v6) + (4 : Int32)).toNatClampNeg)), (0, .ref (gw_a Γ 0)), (1, .ref (gw_a Γ 132)), (2, .ref (gw_a Γ 133)), (3, .ref (gw_a Γ 134)), (5, .int v5), (6, .int v6)] dL_areStudents_182 (by decide) rfl ?_
                    refine gj_iconst (v := 0) C dL_areStudents_184 (by decide) ?_
                    refine gj_istore C 8 [(8, .int (0 : Int32)), (4, .int (1 : Int32)), (7, .int (μ 1 (((8 : Int32) * v6) + (4 : Int32)).toNatClampNeg)), (0, .ref (gw_a Γ 0)), (1, .ref (gw_a Γ 132)), (2, .ref (gw_a Γ 133)), (3, .ref (gw_a Γ 134)), (5, .int v5), (6, .int v6)] dL_areStudents_185 (by decide) rfl ?_
                    replace hf := gw_bnd hf
                    obtain ⟨t32, ht32, hf⟩ := hf
                    refine gj_pick [3, 4, 5, 6, 1, 7, 8, 2, 0] _ rfl (l_L_areStudents_3 C τ μ o v5 v6 (μ 1 (((8 : Int32) * v6) + (4 : Int32)).toNatClampNeg) _ _ _ t32 ht32 ?_)
                    refine gj_iinc C 6 6 (v6 + 1) [(6, .int (v6 + 1)), (0, .ref (gw_a Γ 0)), (1, .ref (gw_a Γ 132)), (2, .ref (gw_a Γ 133)), (3, .ref (gw_a Γ 134)), (4, .int t32.1), (5, .int v5), (7, .int (μ 1 (((8 : Int32) * v6) + (4 : Int32)).toNatClampNeg)), (8, .int t32.2)] dL_areStudents_239 rfl rfl (by decide) rfl ?_
                    refine gj_goto C 51 dL_areStudents_242 (by decide) ?_
                    cases hf
                    replace hr := gw_il hr
                    exact gj_pick [1, 2, 3, 4, 5, 6, 0] _ rfl (ih _ _ _ hr k)
set_option maxRecDepth 100000 in
set_option maxHeartbeats 4000000 in
theorem s_L_areStudents (l : Launch) (Γ : gw_G) (τ μ : gw_S) (o : Nat → Int64) (r : Int32) (hf : f_L_areStudents τ μ o = some r) : gw_M l yL_areStudents [.code yL_areStudents cL_areStudents 9 (some .boolean)] gr_L_areStudents 0 0 Γ [.ref (gw_a Γ 0), .ref (gw_a Γ 132), .ref (gw_a Γ 133), .ref (gw_a Γ 134)] (gw_W Γ τ μ o) (gw_qi Γ r (gw_W Γ τ μ o)) := by
  refine gw_enter (by decide) (Nat.le_of_ble_eq_true rfl) (fun K C E => ?_)
  unfold f_L_areStudents at hf
  refine gj_iconst (v := 1) C dL_areStudents_0 (by decide) ?_
  refine gj_istore C 4 [(4, .int (1 : Int32)), (0, .ref (gw_a Γ 0)), (1, .ref (gw_a Γ 132)), (2, .ref (gw_a Γ 133)), (3, .ref (gw_a Γ 134))] dL_areStudents_1 (by decide) rfl ?_
  refine gj_iconst (v := 0) C dL_areStudents_3 (by decide) ?_
  refine gj_istore C 5 [(5, .int (0 : Int32)), (4, .int (1 : Int32)), (0, .ref (gw_a Γ 0)), (1, .ref (gw_a Γ 132)), (2, .ref (gw_a Γ 133)), (3, .ref (gw_a Γ 134))] dL_areStudents_4 (by decide) rfl ?_
  refine gj_iconst (v := 0) C dL_areStudents_6 (by decide) ?_
  refine gj_istore C 6 [(6, .int (0 : Int32)), (5, .int (0 : Int32)), (4, .int (1 : Int32)), (0, .ref (gw_a Γ 0)), (1, .ref (gw_a Γ 132)), (2, .ref (gw_a Γ 133)), (3, .ref (gw_a Γ 134))] dL_areStudents_7 (by decide) rfl ?_
  replace hf := gw_bnd hf
  obtain ⟨t3, ht3, hf⟩ := hf
  refine gj_pick [3, 4, 5, 6, 2, 1, 0] _ rfl (l_L_areStudents_1 C τ μ o (1 : Int32) _ _ _ t3 ht3 ?_)
  refine gj_iconst (v := 0) C dL_areStudents_48 (by decide) ?_
  refine gj_istore C 6 [(6, .int (0 : Int32)), (0, .ref (gw_a Γ 0)), (1, .ref (gw_a Γ 132)), (2, .ref (gw_a Γ 133)), (3, .ref (gw_a Γ 134)), (4, .int (1 : Int32)), (5, .int t3.1)] dL_areStudents_49 (by decide) rfl ?_
  replace hf := gw_bnd hf
  obtain ⟨t33, ht33, hf⟩ := hf
  refine gj_pick [1, 2, 3, 4, 5, 6, 0] _ rfl (l_L_areStudents_2 C τ μ o t3.1 _ _ _ t33 ht33 ?_)
  refine gj_iload C 4 dL_areStudents_245 rfl ?_
  obtain ⟨g34, hf⟩ := gw_ifs hf
  cases hf
  exact gj_zret C E (gw_nb g34) dL_areStudents_247 (Nat.le_of_ble_eq_true rfl) (Nat.le_of_ble_eq_true rfl)
set_option maxRecDepth 100000 in
set_option maxHeartbeats 4000000 in
theorem l_L_areOf_2 {K : gw_K} {Γ : gw_G} (C : gw_C K Γ cL_areOf 10 RL) (τ : gw_S) (μ : gw_S) (o : Nat → Int64) (v4 : Int32) (v5 : Int32) (v7 : Int32) : ∀ (n : Nat) (v8 : Int32) (v9 : Int32) (T : Int32 × Int32), gw_it (b_L_areOf_2 τ μ o v4 v5 v7) n (v8, v9) = some T → gw_J K Γ gr_L_areOf 0 0 (gw_W Γ τ μ o) 76 [(0, .ref (gw_a Γ 0)), (1, .ref (gw_a Γ 132)), (2, .ref (gw_a Γ 133)), (3, .ref (gw_a Γ 134)), (4, .int v4), (5, .int v5), (7, .int v7), (8, .int T.1), (9, .int T.2)] [] → gw_J K Γ gr_L_areOf 0 0 (gw_W Γ τ μ o) 25 [(0, .ref (gw_a Γ 0)), (1, .ref (gw_a Γ 132)), (2, .ref (gw_a Γ 133)), (3, .ref (gw_a Γ 134)), (4, .int v4), (5, .int v5), (7, .int v7), (8, .int v8), (9, .int v9)] [] := by
  intro n
  induction n with
  | zero => intro v8 v9 T h; cases h
  | succ n ih =>
    intro v8 v9 T h k
    obtain ⟨q, hf, hr⟩ := gw_it_s h
    rw [b_L_areOf_2] at hf
    refine gj_iload C 8 dL_areOf_25 rfl ?_
    refine gj_iconst (v := 3) C dL_areOf_27 (by decide) ?_
    refine gj_ic_ge C 76 dL_areOf_28 (by decide) (fun c => ?_) (fun c => ?_)
    · replace hf := gw_ift hf c
      cases hf
      cases gw_ir hr
      exact gj_pick [0, 1, 2, 3, 4, 5, 6, 7, 8] _ rfl k
    · replace hf := gw_iff hf c
      refine gj_aload_n C 1 dL_areOf_31 rfl ?_
      refine gj_bipush (v := 8) C dL_areOf_32 (by decide) ?_
      refine gj_iload C 6 dL_areOf_34 rfl ?_
      refine gj_imul C dL_areOf_36 ?_
      refine gj_iconst (v := 5) C dL_areOf_37 (by decide) ?_
      refine gj_iadd C dL_areOf_38 ?_
      refine gj_aload_n C 3 dL_areOf_39 rfl ?_
      refine gj_iconst (v := 2) C dL_areOf_40 (by decide) ?_
      obtain ⟨g2, hf⟩ := gw_ifs hf
      refine gj_bld (j := 2) C (by decide) (gw_ibv g2) dL_areOf_41 ?_
      refine gj_iconst (v := 3) C dL_areOf_42 (by decide) ?_
      refine gj_iadd C dL_areOf_43 ?_
      refine gj_iload C 8 dL_areOf_44 rfl ?_
      refine gj_isub C dL_areOf_46 ?_
      refine gj_iconst (v := 3) C dL_areOf_47 (by decide) ?_
      refine gj_irem C dL_areOf_48 (by decide) ?_
      refine gj_iadd C dL_areOf_49 ?_
      obtain ⟨g3, hf⟩ := gw_ifs hf
      refine gj_bld (j := 0) C (by decide) (gw_ibv g3) dL_areOf_50 ?_
      refine gj_iload C 4 dL_areOf_51 rfl ?_
      replace hf := gw_bnd hf
      obtain ⟨r4, hr4, hf⟩ := hf
      refine gj_cSi (As := [.int (μ 0 ((((8 : Int32) * v7) + (5 : Int32)) + ((((μ 2 (2 : Int32).toNatClampNeg) + (3 : Int32)) - v9) - (((μ 2 (2 : Int32).toNatClampNeg) + (3 : Int32)) - v9) / (3 : Int32) * (3 : Int32))).toNatClampNeg), .int v4]) (rest := []) C cb_L_15 (s_L_has (gw_l K) Γ τ μ o (μ 0 ((((8 : Int32) * v7) + (5 : Int32)) + ((((μ 2 (2 : Int32).toNatClampNeg) + (3 : Int32)) - v9) - (((μ 2 (2 : Int32).toNatClampNeg) + (3 : Int32)) - v9) / (3 : Int32) * (3 : Int32))).toNatClampNeg) v4 r4 hr4) rfl (Nat.le_of_ble_eq_true rfl) dL_areOf_53 (gw_rmk rfl) rfl ?_
      refine gj_if_eq C 66 dL_areOf_56 (by decide) (fun c => ?_) (fun c => ?_)
      · replace hf := gw_ift hf c
        refine gj_iload C 7 dL_areOf_66 rfl ?_
        refine gj_istore C 8 [(8, .int v8), (0, .ref (gw_a Γ 0)), (1, .ref (gw_a Γ 132)), (2, .ref (gw_a Γ 133)), (3, .ref (gw_a Γ 134)), (4, .int v4), (5, .int v5), (7, .int v7), (9, .int v9)] dL_areOf_68 (by decide) rfl ?_
        refine gj_iinc C 9 8 (v9 + 1) [(9, .int (v9 + 1)), (8, .int v8), (0, .ref (gw_a Γ 0)), (1, .ref (gw_a Γ 132)), (2, .ref (gw_a Γ 133)), (3, .ref (gw_a Γ 134)), (4, .int v4), (5, .int v5), (7, .int v7)] dL_areOf_70 rfl rfl (by decide) rfl ?_
        refine gj_goto C 25 dL_areOf_73 (by decide) ?_
        cases hf
        replace hr := gw_il hr
        exact gj_pick [2, 3, 4, 5, 6, 7, 8, 1, 0] _ rfl (ih _ _ _ hr k)
      · replace hf := gw_iff hf c
        refine gj_iconst (v := 3) C dL_areOf_59 (by decide) ?_
        refine gj_iload C 8 dL_areOf_60 rfl ?_
        refine gj_isub C dL_areOf_62 ?_
        refine gj_goto C 68 dL_areOf_63 (by decide) ?_
        refine gj_istore C 8 [(8, .int ((3 : Int32) - v9)), (0, .ref (gw_a Γ 0)), (1, .ref (gw_a Γ 132)), (2, .ref (gw_a Γ 133)), (3, .ref (gw_a Γ 134)), (4, .int v4), (5, .int v5), (7, .int v7), (9, .int v9)] dL_areOf_68 (by decide) rfl ?_
        refine gj_iinc C 9 8 (v9 + 1) [(9, .int (v9 + 1)), (8, .int ((3 : Int32) - v9)), (0, .ref (gw_a Γ 0)), (1, .ref (gw_a Γ 132)), (2, .ref (gw_a Γ 133)), (3, .ref (gw_a Γ 134)), (4, .int v4), (5, .int v5), (7, .int v7)] dL_areOf_70 rfl rfl (by decide) rfl ?_
        refine gj_goto C 25 dL_areOf_73 (by decide) ?_
        cases hf
        replace hr := gw_il hr
        exact gj_pick [2, 3, 4, 5, 6, 7, 8, 1, 0] _ rfl (ih _ _ _ hr k)
set_option maxRecDepth 100000 in
set_option maxHeartbeats 4000000 in
theorem l_L_areOf_1 {K : gw_K} {Γ : gw_G} (C : gw_C K Γ cL_areOf 10 RL) (τ : gw_S) (μ : gw_S) (o : Nat → Int64) (v4 : Int32) (v5 : Int32) : ∀ (n : Nat) (v6 : Int32) (v7 : Int32) (T : Int32 × Int32), gw_it (b_L_areOf_1 τ μ o v4 v5) n (v6, v7) = some T → gw_J K Γ gr_L_areOf 0 0 (gw_W Γ τ μ o) 241 [(0, .ref (gw_a Γ 0)), (1, .ref (gw_a Γ 132)), (2, .ref (gw_a Γ 133)), (3, .ref (gw_a Γ 134)), (4, .int v4), (5, .int v5), (6, .int T.1), (7, .int T.2)] [] → gw_J K Γ gr_L_areOf 0 0 (gw_W Γ τ μ o) 6 [(0, .ref (gw_a Γ 0)), (1, .ref (gw_a Γ 132)), (2, .ref (gw_a Γ 133)), (3, .ref (gw_a Γ 134)), (4, .int v4), (5, .int v5), (6, .int v6), (7, .int v7)] [] := by
  intro n
  induction n with
  | zero => intro v6 v7 T h; cases h
  | succ n ih =>
    intro v6 v7 T h k
    obtain ⟨q, hf, hr⟩ := gw_it_s h
    rw [b_L_areOf_1] at hf
    refine gj_iload C 7 dL_areOf_6 rfl ?_
    refine gj_aload_n C 3 dL_areOf_8 rfl ?_
    refine gj_iconst (v := 0) C dL_areOf_9 (by decide) ?_
    obtain ⟨g1, hf⟩ := gw_ifs hf
    refine gj_bld (j := 2) C (by decide) (gw_ibv g1) dL_areOf_10 ?_
    refine gj_ic_ge C 241 dL_areOf_11 (by decide) (fun c => ?_) (fun c => ?_)
    · replace hf := gw_ift hf c
      cases hf
      cases gw_ir hr
      exact gj_pick [0, 1, 2, 3, 4, 5, 6, 7] _ rfl k
    · replace hf := gw_iff hf c
      refine gj_iload C 6 dL_areOf_14 rfl ?_
      refine gj_if_eq C 241 dL_areOf_16 (by decide) (fun c => ?_) (fun c => ?_)
      · replace hf := gw_ift hf c
        cases hf
        cases gw_ir hr
        exact gj_pick [0, 1, 2, 3, 4, 5, 6, 7] _ rfl k
      · replace hf := gw_iff hf c
        refine gj_iconst (v := 0) C dL_areOf_19 (by decide) ?_
        refine gj_istore C 8 [(8, .int (0 : Int32)), (0, .ref (gw_a Γ 0)), (1, .ref (gw_a Γ 132)), (2, .ref (gw_a Γ 133)), (3, .ref (gw_a Γ 134)), (4, .int v4), (5, .int v5), (6, .int v6), (7, .int v7)] dL_areOf_20 (by decide) rfl ?_
        refine gj_iconst (v := 0) C dL_areOf_22 (by decide) ?_
        refine gj_istore C 9 [(9, .int (0 : Int32)), (8, .int (0 : Int32)), (0, .ref (gw_a Γ 0)), (1, .ref (gw_a Γ 132)), (2, .ref (gw_a Γ 133)), (3, .ref (gw_a Γ 134)), (4, .int v4), (5, .int v5), (6, .int v6), (7, .int v7)] dL_areOf_23 (by decide) rfl ?_
        replace hf := gw_bnd hf
        obtain ⟨t5, ht5, hf⟩ := hf
        refine gj_pick [2, 3, 4, 5, 6, 7, 9, 1, 0] _ rfl (l_L_areOf_2 C τ μ o v4 v5 v7 _ _ _ t5 ht5 ?_)
        refine gj_aload_n C 0 dL_areOf_76 rfl ?_
        refine gj_iload C 4 dL_areOf_77 rfl ?_
        refine gj_iload C 6 dL_areOf_79 rfl ?_
        replace hf := gw_bnd hf
        obtain ⟨r6, hr6, hf⟩ := hf
        replace hf := gw_xn hf
        obtain ⟨y7, he, hf⟩ := hf
        subst he
        refine gj_cVi (As := [.int v4, .int v7]) (rest := []) C cb_L_209 (sr_X3_isEnrolled (gw_l K) Γ τ μ o v4 v7 y7 hr6) rfl (Nat.le_of_ble_eq_true rfl) gw_atM rfl rfl dL_areOf_81 (gw_rmk rfl) rfl ?_
        refine gj_aload_n C 2 dL_areOf_84 rfl ?_
        refine gj_bipush (v := 8) C dL_areOf_85 (by decide) ?_
        refine gj_iload C 4 dL_areOf_87 rfl ?_
        refine gj_imul C dL_areOf_89 ?_
        refine gj_iconst (v := 3) C dL_areOf_90 (by decide) ?_
        refine gj_iadd C dL_areOf_91 ?_
        obtain ⟨g8, hf⟩ := gw_ifs hf
        refine gj_bld (j := 1) C (by decide) (gw_ibv g8) dL_areOf_92 ?_
        refine gj_iload C 6 dL_areOf_93 rfl ?_
        replace hf := gw_bnd hf
        obtain ⟨r9, hr9, hf⟩ := hf
        refine gj_cSi (As := [.int (μ 1 (((8 : Int32) * v4) + (3 : Int32)).toNatClampNeg), .int v7]) (rest := [.int y7]) C cb_L_15 (s_L_has (gw_l K) Γ τ μ o (μ 1 (((8 : Int32) * v4) + (3 : Int32)).toNatClampNeg) v7 r9 hr9) rfl (Nat.le_of_ble_eq_true rfl) dL_areOf_95 (gw_rmk rfl) rfl ?_
        refine gj_ic_ne C 232 dL_areOf_98 (by decide) (fun c => ?_) (fun c => ?_)
        · replace hf := gw_iff hf c
          refine gj_iconst (v := 0) C dL_areOf_232 (by decide) ?_
          refine gj_istore C 6 [(6, .int (0 : Int32)), (0, .ref (gw_a Γ 0)), (1, .ref (gw_a Γ 132)), (2, .ref (gw_a Γ 133)), (3, .ref (gw_a Γ 134)), (4, .int v4), (5, .int v5), (7, .int v7), (8, .int t5.1), (9, .int t5.2)] dL_areOf_233 (by decide) rfl ?_
          refine gj_iinc C 7 7 (v7 + 1) [(7, .int (v7 + 1)), (6, .int (0 : Int32)), (0, .ref (gw_a Γ 0)), (1, .ref (gw_a Γ 132)), (2, .ref (gw_a Γ 133)), (3, .ref (gw_a Γ 134)), (4, .int v4), (5, .int v5), (8, .int t5.1), (9, .int t5.2)] dL_areOf_235 rfl rfl (by decide) rfl ?_
          refine gj_goto C 6 dL_areOf_238 (by decide) ?_
          cases hf
          replace hr := gw_il hr
          exact gj_pick [2, 3, 4, 5, 6, 7, 1, 0] _ rfl (ih _ _ _ hr k)
        · replace hf := gw_ift hf c
          refine gj_aload_n C 0 dL_areOf_101 rfl ?_
          refine gj_iload C 4 dL_areOf_102 rfl ?_
          refine gj_iload C 6 dL_areOf_104 rfl ?_
          replace hf := gw_bnd hf
          obtain ⟨r10, hr10, hf⟩ := hf
          replace hf := gw_xn hf
          obtain ⟨y11, he, hf⟩ := hf
          subst he
          refine gj_cVi (As := [.int v4, .int v7]) (rest := []) C cb_L_212 (sr_X3_hasPassed (gw_l K) Γ τ μ o v4 v7 y11 hr10) rfl (Nat.le_of_ble_eq_true rfl) gw_atM rfl rfl dL_areOf_106 (gw_rmk rfl) rfl ?_
          refine gj_aload_n C 2 dL_areOf_109 rfl ?_
          refine gj_bipush (v := 8) C dL_areOf_110 (by decide) ?_
          refine gj_iload C 4 dL_areOf_112 rfl ?_
          refine gj_imul C dL_areOf_114 ?_
          refine gj_iconst (v := 2) C dL_areOf_115 (by decide) ?_
          refine gj_iadd C dL_areOf_116 ?_
          obtain ⟨g12, hf⟩ := gw_ifs hf
          refine gj_bld (j := 1) C (by decide) (gw_ibv g12) dL_areOf_117 ?_
          refine gj_iload C 6 dL_areOf_118 rfl ?_
          replace hf := gw_bnd hf
          obtain ⟨r13, hr13, hf⟩ := hf
          refine gj_cSi (As := [.int (μ 1 (((8 : Int32) * v4) + (2 : Int32)).toNatClampNeg), .int v7]) (rest := [.int y11]) C cb_L_15 (s_L_has (gw_l K) Γ τ μ o (μ 1 (((8 : Int32) * v4) + (2 : Int32)).toNatClampNeg) v7 r13 hr13) rfl (Nat.le_of_ble_eq_true rfl) dL_areOf_120 (gw_rmk rfl) rfl ?_
          refine gj_ic_ne C 232 dL_areOf_123 (by decide) (fun c => ?_) (fun c => ?_)
          · replace hf := gw_iff hf c
            refine gj_iconst (v := 0) C dL_areOf_232 (by decide) ?_
            refine gj_istore C 6 [(6, .int (0 : Int32)), (0, .ref (gw_a Γ 0)), (1, .ref (gw_a Γ 132)), (2, .ref (gw_a Γ 133)), (3, .ref (gw_a Γ 134)), (4, .int v4), (5, .int v5), (7, .int v7), (8, .int t5.1), (9, .int t5.2)] dL_areOf_233 (by decide) rfl ?_
            refine gj_iinc C 7 7 (v7 + 1) [(7, .int (v7 + 1)), (6, .int (0 : Int32)), (0, .ref (gw_a Γ 0)), (1, .ref (gw_a Γ 132)), (2, .ref (gw_a Γ 133)), (3, .ref (gw_a Γ 134)), (4, .int v4), (5, .int v5), (8, .int t5.1), (9, .int t5.2)] dL_areOf_235 rfl rfl (by decide) rfl ?_
            refine gj_goto C 6 dL_areOf_238 (by decide) ?_
            cases hf
            replace hr := gw_il hr
            exact gj_pick [2, 3, 4, 5, 6, 7, 1, 0] _ rfl (ih _ _ _ hr k)
          · replace hf := gw_ift hf c
            refine gj_aload_n C 0 dL_areOf_126 rfl ?_
            refine gj_iload C 4 dL_areOf_127 rfl ?_
            refine gj_iload C 6 dL_areOf_129 rfl ?_
            replace hf := gw_bnd hf
            obtain ⟨r14, hr14, hf⟩ := hf
            replace hf := gw_xn hf
            obtain ⟨y15, he, hf⟩ := hf
            subst he
            refine gj_cVi (As := [.int v4, .int v7]) (rest := []) C cb_L_215 (sr_X3_missing (gw_l K) Γ τ μ o v4 v7 y15 hr14) rfl (Nat.le_of_ble_eq_true rfl) gw_atM rfl rfl dL_areOf_131 (gw_rmk rfl) rfl ?_
            refine gj_aload_n C 1 dL_areOf_134 rfl ?_
            refine gj_bipush (v := 8) C dL_areOf_135 (by decide) ?_
            refine gj_iload C 6 dL_areOf_137 rfl ?_
            refine gj_imul C dL_areOf_139 ?_
            refine gj_iconst (v := 4) C dL_areOf_140 (by decide) ?_
            refine gj_iadd C dL_areOf_141 ?_
            obtain ⟨g16, hf⟩ := gw_ifs hf
            refine gj_bld (j := 0) C (by decide) (gw_ibv g16) dL_areOf_142 ?_
            refine gj_aload_n C 2 dL_areOf_143 rfl ?_
            refine gj_bipush (v := 8) C dL_areOf_144 (by decide) ?_
            refine gj_iload C 4 dL_areOf_146 rfl ?_
            refine gj_imul C dL_areOf_148 ?_
            refine gj_iconst (v := 2) C dL_areOf_149 (by decide) ?_
            refine gj_iadd C dL_areOf_150 ?_
            obtain ⟨g17, hf⟩ := gw_ifs hf
            refine gj_bld (j := 1) C (by decide) (gw_ibv g17) dL_areOf_151 ?_
            refine gj_iconst (v := -1) C dL_areOf_152 (by decide) ?_
            refine gj_ixor C dL_areOf_153 ?_
            refine gj_iand C dL_areOf_154 ?_
            replace hf := gw_bnd hf
            obtain ⟨r18, hr18, hf⟩ := hf
            refine gj_cSi (As := [.int ((μ 0 (((8 : Int32) * v7) + (4 : Int32)).toNatClampNeg) &&& ((μ 1 (((8 : Int32) * v4) + (2 : Int32)).toNatClampNeg) ^^^ (-1 : Int32)))]) (rest := [.int y15]) C cb_L_29 (s_L_many (gw_l K) Γ τ μ o ((μ 0 (((8 : Int32) * v7) + (4 : Int32)).toNatClampNeg) &&& ((μ 1 (((8 : Int32) * v4) + (2 : Int32)).toNatClampNeg) ^^^ (-1 : Int32))) r18 hr18) rfl (Nat.le_of_ble_eq_true rfl) dL_areOf_155 (gw_rmk rfl) rfl ?_
            refine gj_ic_ne C 232 dL_areOf_158 (by decide) (fun c => ?_) (fun c => ?_)
            · replace hf := gw_iff hf c
              refine gj_iconst (v := 0) C dL_areOf_232 (by decide) ?_
              refine gj_istore C 6 [(6, .int (0 : Int32)), (0, .ref (gw_a Γ 0)), (1, .ref (gw_a Γ 132)), (2, .ref (gw_a Γ 133)), (3, .ref (gw_a Γ 134)), (4, .int v4), (5, .int v5), (7, .int v7), (8, .int t5.1), (9, .int t5.2)] dL_areOf_233 (by decide) rfl ?_
              refine gj_iinc C 7 7 (v7 + 1) [(7, .int (v7 + 1)), (6, .int (0 : Int32)), (0, .ref (gw_a Γ 0)), (1, .ref (gw_a Γ 132)), (2, .ref (gw_a Γ 133)), (3, .ref (gw_a Γ 134)), (4, .int v4), (5, .int v5), (8, .int t5.1), (9, .int t5.2)] dL_areOf_235 rfl rfl (by decide) rfl ?_
              refine gj_goto C 6 dL_areOf_238 (by decide) ?_
              cases hf
              replace hr := gw_il hr
              exact gj_pick [2, 3, 4, 5, 6, 7, 1, 0] _ rfl (ih _ _ _ hr k)
            · replace hf := gw_ift hf c
              refine gj_aload_n C 0 dL_areOf_161 rfl ?_
              refine gj_iload C 4 dL_areOf_162 rfl ?_
              refine gj_iload C 6 dL_areOf_164 rfl ?_
              replace hf := gw_bnd hf
              obtain ⟨r19, hr19, hf⟩ := hf
              replace hf := gw_xn hf
              obtain ⟨y20, he, hf⟩ := hf
              subst he
              refine gj_cVi (As := [.int v4, .int v7]) (rest := []) C cb_L_218 (sr_X3_obstacle (gw_l K) Γ τ μ o v4 v7 y20 hr19) rfl (Nat.le_of_ble_eq_true rfl) gw_atM rfl rfl dL_areOf_166 (gw_rmk rfl) rfl ?_
              refine gj_aload_n C 1 dL_areOf_169 rfl ?_
              refine gj_aload_n C 2 dL_areOf_170 rfl ?_
              refine gj_iload C 4 dL_areOf_171 rfl ?_
              refine gj_iload C 6 dL_areOf_173 rfl ?_
              refine gj_aload_n C 2 dL_areOf_175 rfl ?_
              refine gj_bipush (v := 8) C dL_areOf_176 (by decide) ?_
              refine gj_iload C 4 dL_areOf_178 rfl ?_
              refine gj_imul C dL_areOf_180 ?_
              refine gj_iconst (v := 3) C dL_areOf_181 (by decide) ?_
              refine gj_iadd C dL_areOf_182 ?_
              obtain ⟨g21, hf⟩ := gw_ifs hf
              refine gj_bld (j := 1) C (by decide) (gw_ibv g21) dL_areOf_183 ?_
              replace hf := gw_bnd hf
              obtain ⟨r22, hr22, hf⟩ := hf
              refine gj_cSi (As := [.ref (gw_a Γ 132), .ref (gw_a Γ 133), .int v4, .int v7, .int (μ 1 (((8 : Int32) * v4) + (3 : Int32)).toNatClampNeg)]) (rest := [.int y20]) C cb_L_37 (s_L_obstacle (gw_l K) Γ τ μ o v4 v7 (μ 1 (((8 : Int32) * v4) + (3 : Int32)).toNatClampNeg) r22 hr22) rfl (Nat.le_of_ble_eq_true rfl) dL_areOf_184 (gw_rmk rfl) rfl ?_
              refine gj_ic_ne C 232 dL_areOf_187 (by decide) (fun c => ?_) (fun c => ?_)
              · replace hf := gw_iff hf c
                refine gj_iconst (v := 0) C dL_areOf_232 (by decide) ?_
                refine gj_istore C 6 [(6, .int (0 : Int32)), (0, .ref (gw_a Γ 0)), (1, .ref (gw_a Γ 132)), (2, .ref (gw_a Γ 133)), (3, .ref (gw_a Γ 134)), (4, .int v4), (5, .int v5), (7, .int v7), (8, .int t5.1), (9, .int t5.2)] dL_areOf_233 (by decide) rfl ?_
                refine gj_iinc C 7 7 (v7 + 1) [(7, .int (v7 + 1)), (6, .int (0 : Int32)), (0, .ref (gw_a Γ 0)), (1, .ref (gw_a Γ 132)), (2, .ref (gw_a Γ 133)), (3, .ref (gw_a Γ 134)), (4, .int v4), (5, .int v5), (8, .int t5.1), (9, .int t5.2)] dL_areOf_235 rfl rfl (by decide) rfl ?_
                refine gj_goto C 6 dL_areOf_238 (by decide) ?_
                cases hf
                replace hr := gw_il hr
                exact gj_pick [2, 3, 4, 5, 6, 7, 1, 0] _ rfl (ih _ _ _ hr k)
              · replace hf := gw_ift hf c
                refine gj_aload_n C 0 dL_areOf_190 rfl ?_
                refine gj_iload C 4 dL_areOf_191 rfl ?_
                refine gj_iload C 6 dL_areOf_193 rfl ?_
                replace hf := gw_bnd hf
                obtain ⟨r23, hr23, hf⟩ := hf
                replace hf := gw_xn hf
                obtain ⟨y24, he, hf⟩ := hf
                subst he
                refine gj_cVi (As := [.int v4, .int v7]) (rest := []) C cb_L_220 (sr_X3_offerDays (gw_l K) Γ τ μ o v4 v7 y24 hr23) rfl (Nat.le_of_ble_eq_true rfl) gw_atM rfl rfl dL_areOf_195 (gw_rmk rfl) rfl ?_
                refine gj_iload C 7 dL_areOf_198 rfl ?_
                refine gj_ic_ne C 232 dL_areOf_200 (by decide) (fun c => ?_) (fun c => ?_)
                · replace hf := gw_iff hf c
                  refine gj_iconst (v := 0) C dL_areOf_232 (by decide) ?_
                  refine gj_istore C 6 [(6, .int (0 : Int32)), (0, .ref (gw_a Γ 0)), (1, .ref (gw_a Γ 132)), (2, .ref (gw_a Γ 133)), (3, .ref (gw_a Γ 134)), (4, .int v4), (5, .int v5), (7, .int v7), (8, .int t5.1), (9, .int t5.2)] dL_areOf_233 (by decide) rfl ?_
                  refine gj_iinc C 7 7 (v7 + 1) [(7, .int (v7 + 1)), (6, .int (0 : Int32)), (0, .ref (gw_a Γ 0)), (1, .ref (gw_a Γ 132)), (2, .ref (gw_a Γ 133)), (3, .ref (gw_a Γ 134)), (4, .int v4), (5, .int v5), (8, .int t5.1), (9, .int t5.2)] dL_areOf_235 rfl rfl (by decide) rfl ?_
                  refine gj_goto C 6 dL_areOf_238 (by decide) ?_
                  cases hf
                  replace hr := gw_il hr
                  exact gj_pick [2, 3, 4, 5, 6, 7, 1, 0] _ rfl (ih _ _ _ hr k)
                · replace hf := gw_ift hf c
                  refine gj_aload_n C 0 dL_areOf_203 rfl ?_
                  refine gj_iload C 5 dL_areOf_204 rfl ?_
                  refine gj_iload C 6 dL_areOf_206 rfl ?_
                  replace hf := gw_bnd hf
                  obtain ⟨r25, hr25, hf⟩ := hf
                  replace hf := gw_xn hf
                  obtain ⟨y26, he, hf⟩ := hf
                  subst he
                  refine gj_cVi (As := [.int v5, .int v7]) (rest := []) C cb_L_223 (sr_X3_requires (gw_l K) Γ τ μ o v5 v7 y26 hr25) rfl (Nat.le_of_ble_eq_true rfl) gw_atM rfl rfl dL_areOf_208 (gw_rmk rfl) rfl ?_
                  refine gj_aload_n C 1 dL_areOf_211 rfl ?_
                  refine gj_bipush (v := 8) C dL_areOf_212 (by decide) ?_
                  refine gj_iload C 5 dL_areOf_214 rfl ?_
                  refine gj_imul C dL_areOf_216 ?_
                  refine gj_iconst (v := 4) C dL_areOf_217 (by decide) ?_
                  refine gj_iadd C dL_areOf_218 ?_
                  obtain ⟨g27, hf⟩ := gw_ifs hf
                  refine gj_bld (j := 0) C (by decide) (gw_ibv g27) dL_areOf_219 ?_
                  refine gj_iload C 6 dL_areOf_220 rfl ?_
                  replace hf := gw_bnd hf
                  obtain ⟨r28, hr28, hf⟩ := hf
                  refine gj_cSi (As := [.int (μ 0 (((8 : Int32) * v5) + (4 : Int32)).toNatClampNeg), .int v7]) (rest := [.int y26]) C cb_L_15 (s_L_has (gw_l K) Γ τ μ o (μ 0 (((8 : Int32) * v5) + (4 : Int32)).toNatClampNeg) v7 r28 hr28) rfl (Nat.le_of_ble_eq_true rfl) dL_areOf_222 (gw_rmk rfl) rfl ?_
                  refine gj_ic_ne C 232 dL_areOf_225 (by decide) (fun c => ?_) (fun c => ?_)
                  · replace hf := gw_iff hf c
                    refine gj_iconst (v := 0) C dL_areOf_232 (by decide) ?_
                    refine gj_istore C 6 [(6, .int (0 : Int32)), (0, .ref (gw_a Γ 0)), (1, .ref (gw_a Γ 132)), (2, .ref (gw_a Γ 133)), (3, .ref (gw_a Γ 134)), (4, .int v4), (5, .int v5), (7, .int v7), (8, .int t5.1), (9, .int t5.2)] dL_areOf_233 (by decide) rfl ?_
                    refine gj_iinc C 7 7 (v7 + 1) [(7, .int (v7 + 1)), (6, .int (0 : Int32)), (0, .ref (gw_a Γ 0)), (1, .ref (gw_a Γ 132)), (2, .ref (gw_a Γ 133)), (3, .ref (gw_a Γ 134)), (4, .int v4), (5, .int v5), (8, .int t5.1), (9, .int t5.2)] dL_areOf_235 rfl rfl (by decide) rfl ?_
                    refine gj_goto C 6 dL_areOf_238 (by decide) ?_
                    cases hf
                    replace hr := gw_il hr
                    exact gj_pick [2, 3, 4, 5, 6, 7, 1, 0] _ rfl (ih _ _ _ hr k)
                  · replace hf := gw_ift hf c
                    refine gj_iconst (v := 1) C dL_areOf_228 (by decide) ?_
                    refine gj_goto C 233 dL_areOf_229 (by decide) ?_
                    refine gj_istore C 6 [(6, .int (1 : Int32)), (0, .ref (gw_a Γ 0)), (1, .ref (gw_a Γ 132)), (2, .ref (gw_a Γ 133)), (3, .ref (gw_a Γ 134)), (4, .int v4), (5, .int v5), (7, .int v7), (8, .int t5.1), (9, .int t5.2)] dL_areOf_233 (by decide) rfl ?_
                    refine gj_iinc C 7 7 (v7 + 1) [(7, .int (v7 + 1)), (6, .int (1 : Int32)), (0, .ref (gw_a Γ 0)), (1, .ref (gw_a Γ 132)), (2, .ref (gw_a Γ 133)), (3, .ref (gw_a Γ 134)), (4, .int v4), (5, .int v5), (8, .int t5.1), (9, .int t5.2)] dL_areOf_235 rfl rfl (by decide) rfl ?_
                    refine gj_goto C 6 dL_areOf_238 (by decide) ?_
                    cases hf
                    replace hr := gw_il hr
                    exact gj_pick [2, 3, 4, 5, 6, 7, 1, 0] _ rfl (ih _ _ _ hr k)
set_option maxRecDepth 100000 in
set_option maxHeartbeats 4000000 in
theorem s_L_areOf (l : Launch) (Γ : gw_G) (τ μ : gw_S) (o : Nat → Int64) (a4 : Int32) (a5 : Int32) (r : Int32) (hf : f_L_areOf τ μ o a4 a5 = some r) : gw_M l yL_areOf [.code yL_areOf cL_areOf 10 (some .boolean)] gr_L_areOf 0 0 Γ [.ref (gw_a Γ 0), .ref (gw_a Γ 132), .ref (gw_a Γ 133), .ref (gw_a Γ 134), .int a4, .int a5] (gw_W Γ τ μ o) (gw_qi Γ r (gw_W Γ τ μ o)) := by
  refine gw_enter (by decide) (Nat.le_of_ble_eq_true rfl) (fun K C E => ?_)
  unfold f_L_areOf at hf
  refine gj_iconst (v := 1) C dL_areOf_0 (by decide) ?_
  refine gj_istore C 6 [(6, .int (1 : Int32)), (0, .ref (gw_a Γ 0)), (1, .ref (gw_a Γ 132)), (2, .ref (gw_a Γ 133)), (3, .ref (gw_a Γ 134)), (4, .int a4), (5, .int a5)] dL_areOf_1 (by decide) rfl ?_
  refine gj_iconst (v := 0) C dL_areOf_3 (by decide) ?_
  refine gj_istore C 7 [(7, .int (0 : Int32)), (6, .int (1 : Int32)), (0, .ref (gw_a Γ 0)), (1, .ref (gw_a Γ 132)), (2, .ref (gw_a Γ 133)), (3, .ref (gw_a Γ 134)), (4, .int a4), (5, .int a5)] dL_areOf_4 (by decide) rfl ?_
  replace hf := gw_bnd hf
  obtain ⟨t29, ht29, hf⟩ := hf
  refine gj_pick [2, 3, 4, 5, 6, 7, 1, 0] _ rfl (l_L_areOf_1 C τ μ o a4 a5 _ _ _ t29 ht29 ?_)
  refine gj_iload C 6 dL_areOf_241 rfl ?_
  obtain ⟨g30, hf⟩ := gw_ifs hf
  cases hf
  exact gj_zret C E (gw_nb g30) dL_areOf_243 (Nat.le_of_ble_eq_true rfl) (Nat.le_of_ble_eq_true rfl)
set_option maxRecDepth 100000 in
set_option maxHeartbeats 4000000 in
theorem s_L_adds (l : Launch) (Γ : gw_G) (τ μ : gw_S) (o : Nat → Int64) (a4 : Int32) (a5 : Int32) (r : Int32 × gw_S × gw_S × (Nat → Int64)) (hf : f_L_adds τ μ o a4 a5 = some r) : gw_M l yL_adds [.code yL_adds cL_adds 7 (some .boolean)] gr_L_adds 1 6 Γ [.ref (gw_a Γ 0), .ref (gw_a Γ 132), .ref (gw_a Γ 133), .ref (gw_a Γ 134), .int a4, .int a5] (gw_W Γ τ μ o) (gw_qi Γ r.1 (gw_W Γ r.2.1 r.2.2.1 r.2.2.2)) := by
  refine gw_enter (by decide) (Nat.le_of_ble_eq_true rfl) (fun K C E => ?_)
  unfold f_L_adds at hf
  refine gj_iload C 5 dL_adds_0 rfl ?_
  refine gj_if_eq C 130 dL_adds_2 (by decide) (fun c => ?_) (fun c => ?_)
  · replace hf := gw_ift hf c
    refine gj_aload_n C 3 dL_adds_130 rfl ?_
    refine gj_iconst (v := 1) C dL_adds_131 (by decide) ?_
    obtain ⟨g1, hf⟩ := gw_ifs hf
    refine gj_bld (j := 2) C (by decide) (gw_ibv g1) dL_adds_132 ?_
    refine gj_istore C 6 [(6, .int (μ 2 (1 : Int32).toNatClampNeg)), (0, .ref (gw_a Γ 0)), (1, .ref (gw_a Γ 132)), (2, .ref (gw_a Γ 133)), (3, .ref (gw_a Γ 134)), (4, .int a4), (5, .int a5)] dL_adds_133 (by decide) rfl ?_
    refine gj_aload_n C 3 dL_adds_135 rfl ?_
    refine gj_bipush (v := 8) C dL_adds_136 (by decide) ?_
    refine gj_iload C 0 dL_adds_138 rfl ?_
    refine gj_imul C dL_adds_140 ?_
    refine gj_iload C 5 dL_adds_141 rfl ?_
    refine gj_iconst (v := 4) C dL_adds_143 (by decide) ?_
    refine gj_irem C dL_adds_144 (by decide) ?_
    obtain ⟨g2, hf⟩ := gw_ifs hf
    refine gj_bst (j := 1) C (by decide) (gw_ibv g2) dL_adds_145 ?_
    refine gj_aload_n C 3 dL_adds_146 rfl ?_
    refine gj_bipush (v := 8) C dL_adds_147 (by decide) ?_
    refine gj_iload C 0 dL_adds_149 rfl ?_
    refine gj_imul C dL_adds_151 ?_
    refine gj_iconst (v := 1) C dL_adds_152 (by decide) ?_
    refine gj_iadd C dL_adds_153 ?_
    refine gj_bipush (v := 6) C dL_adds_154 (by decide) ?_
    refine gj_iload C 5 dL_adds_156 rfl ?_
    refine gj_iconst (v := 4) C dL_adds_158 (by decide) ?_
    refine gj_idiv C dL_adds_159 (by decide) ?_
    refine gj_bipush (v := 20) C dL_adds_160 (by decide) ?_
    refine gj_irem C dL_adds_162 (by decide) ?_
    refine gj_iadd C dL_adds_163 ?_
    obtain ⟨g3, hf⟩ := gw_ifs hf
    refine gj_bst (j := 1) C (by decide) (gw_ibv g3) dL_adds_164 ?_
    refine gj_aload_n C 3 dL_adds_165 rfl ?_
    refine gj_bipush (v := 8) C dL_adds_166 (by decide) ?_
    refine gj_iload C 0 dL_adds_168 rfl ?_
    refine gj_imul C dL_adds_170 ?_
    refine gj_iconst (v := 5) C dL_adds_171 (by decide) ?_
    refine gj_iadd C dL_adds_172 ?_
    refine gj_iconst (v := -1) C dL_adds_173 (by decide) ?_
    obtain ⟨g4, hf⟩ := gw_ifs hf
    refine gj_bst (j := 1) C (by decide) (gw_ibv g4) dL_adds_174 ?_
    refine gj_aload_n C 3 dL_adds_175 rfl ?_
    refine gj_bipush (v := 8) C dL_adds_176 (by decide) ?_
    refine gj_iload C 0 dL_adds_178 rfl ?_
    refine gj_imul C dL_adds_180 ?_
    refine gj_bipush (v := 6) C dL_adds_181 (by decide) ?_
    refine gj_iadd C dL_adds_183 ?_
    refine gj_iconst (v := -1) C dL_adds_184 (by decide) ?_
    obtain ⟨g5, hf⟩ := gw_ifs hf
    refine gj_bst (j := 1) C (by decide) (gw_ibv g5) dL_adds_185 ?_
    refine gj_aload_n C 4 dL_adds_186 rfl ?_
    refine gj_iconst (v := 1) C dL_adds_187 (by decide) ?_
    refine gj_dup2 C dL_adds_188 rfl rfl ?_
    obtain ⟨g6, hf⟩ := gw_ifs hf
    refine gj_bld (j := 2) C (by decide) (gw_ibv g6) dL_adds_189 ?_
    refine gj_iconst (v := 1) C dL_adds_190 (by decide) ?_
    refine gj_iadd C dL_adds_191 ?_
    obtain ⟨g7, hf⟩ := gw_ifs hf
    refine gj_bst (j := 2) C (by decide) (gw_ibv g7) dL_adds_192 ?_
    refine gj_aload_n C 1 dL_adds_193 rfl ?_
    refine gj_aload_n C 3 dL_adds_194 rfl ?_
    refine gj_bipush (v := 8) C dL_adds_195 (by decide) ?_
    refine gj_iload C 0 dL_adds_197 rfl ?_
    refine gj_imul C dL_adds_199 ?_
    obtain ⟨g8, hf⟩ := gw_ifs hf
    refine gj_bld (j := 1) C (by decide) (gw_ibv g8) dL_adds_200 ?_
    refine gj_aload_n C 3 dL_adds_201 rfl ?_
    refine gj_bipush (v := 8) C dL_adds_202 (by decide) ?_
    refine gj_iload C 0 dL_adds_204 rfl ?_
    refine gj_imul C dL_adds_206 ?_
    refine gj_iconst (v := 1) C dL_adds_207 (by decide) ?_
    refine gj_iadd C dL_adds_208 ?_
    obtain ⟨g9, hf⟩ := gw_ifs hf
    refine gj_bld (j := 1) C (by decide) (gw_ibv g9) dL_adds_209 ?_
    replace hf := gw_bnd hf
    obtain ⟨r10, hr10, hf⟩ := hf
    replace hf := gw_xn hf
    obtain ⟨y11, he, hf⟩ := hf
    refine gj_cVI (As := [.int ((gw_up (gw_up (gw_up (gw_up (gw_up μ 1 (((8 : Int32) * (μ 2 (1 : Int32).toNatClampNeg)).toNatClampNeg) (a4 - a4 / (4 : Int32) * (4 : Int32))) 1 ((((8 : Int32) * (μ 2 (1 : Int32).toNatClampNeg)) + (1 : Int32)).toNatClampNeg) ((6 : Int32) + ((a4 / (4 : Int32)) - (a4 / (4 : Int32)) / (20 : Int32) * (20 : Int32)))) 1 ((((8 : Int32) * (μ 2 (1 : Int32).toNatClampNeg)) + (5 : Int32)).toNatClampNeg) (-1 : Int32)) 1 ((((8 : Int32) * (μ 2 (1 : Int32).toNatClampNeg)) + (6 : Int32)).toNatClampNeg) (-1 : Int32)) 2 ((1 : Int32).toNatClampNeg) (((gw_up (gw_up (gw_up (gw_up μ 1 (((8 : Int32) * (μ 2 (1 : Int32).toNatClampNeg)).toNatClampNeg) (a4 - a4 / (4 : Int32) * (4 : Int32))) 1 ((((8 : Int32) * (μ 2 (1 : Int32).toNatClampNeg)) + (1 : Int32)).toNatClampNeg) ((6 : Int32) + ((a4 / (4 : Int32)) - (a4 / (4 : Int32)) / (20 : Int32) * (20 : Int32)))) 1 ((((8 : Int32) * (μ 2 (1 : Int32).toNatClampNeg)) + (5 : Int32)).toNatClampNeg) (-1 : Int32)) 1 ((((8 : Int32) * (μ 2 (1 : Int32).toNatClampNeg)) + (6 : Int32)).toNatClampNeg) (-1 : Int32)) 2 (1 : Int32).toNatClampNeg) + (1 : Int32))) 1 ((8 : Int32) * (μ 2 (1 : Int32).toNatClampNeg)).toNatClampNeg), .int ((gw_up (gw_up (gw_up (gw_up (gw_up μ 1 (((8 : Int32) * (μ 2 (1 : Int32).toNatClampNeg)).toNatClampNeg) (a4 - a4 / (4 : Int32) * (4 : Int32))) 1 ((((8 : Int32) * (μ 2 (1 : Int32).toNatClampNeg)) + (1 : Int32)).toNatClampNeg) ((6 : Int32) + ((a4 / (4 : Int32)) - (a4 / (4 : Int32)) / (20 : Int32) * (20 : Int32)))) 1 ((((8 : Int32) * (μ 2 (1 : Int32).toNatClampNeg)) + (5 : Int32)).toNatClampNeg) (-1 : Int32)) 1 ((((8 : Int32) * (μ 2 (1 : Int32).toNatClampNeg)) + (6 : Int32)).toNatClampNeg) (-1 : Int32)) 2 ((1 : Int32).toNatClampNeg) (((gw_up (gw_up (gw_up (gw_up μ 1 (((8 : Int32) * (μ 2 (1 : Int32).toNatClampNeg)).toNatClampNeg) (a4 - a4 / (4 : Int32) * (4 : Int32))) 1 ((((8 : Int32) * (μ 2 (1 : Int32).toNatClampNeg)) + (1 : Int32)).toNatClampNeg) ((6 : Int32) + ((a4 / (4 : Int32)) - (a4 / (4 : Int32)) / (20 : Int32) * (20 : Int32)))) 1 ((((8 : Int32) * (μ 2 (1 : Int32).toNatClampNeg)) + (5 : Int32)).toNatClampNeg) (-1 : Int32)) 1 ((((8 : Int32) * (μ 2 (1 : Int32).toNatClampNeg)) + (6 : Int32)).toNatClampNeg) (-1 : Int32)) 2 (1 : Int32).toNatClampNeg) + (1 : Int32))) 1 (((8 : Int32) * (μ 2 (1 : Int32).toNatClampNeg)) + (1 : Int32)).toNatClampNeg)]) (rest := []) C cb_L_228 (s_X3_addStudent (gw_l K) Γ τ (gw_up (gw_up (gw_up (gw_up (gw_up μ 1 (((8 : Int32) * (μ 2 (1 : Int32).toNatClampNeg)).toNatClampNeg) (a4 - a4 / (4 : Int32) * (4 : Int32))) 1 ((((8 : Int32) * (μ 2 (1 : Int32).toNatClampNeg)) + (1 : Int32)).toNatClampNeg) ((6 : Int32) + ((a4 / (4 : Int32)) - (a4 / (4 : Int32)) / (20 : Int32) * (20 : Int32)))) 1 ((((8 : Int32) * (μ 2 (1 : Int32).toNatClampNeg)) + (5 : Int32)).toNatClampNeg) (-1 : Int32)) 1 ((((8 : Int32) * (μ 2 (1 : Int32).toNatClampNeg)) + (6 : Int32)).toNatClampNeg) (-1 : Int32)) 2 ((1 : Int32).toNatClampNeg) (((gw_up (gw_up (gw_up (gw_up μ 1 (((8 : Int32) * (μ 2 (1 : Int32).toNatClampNeg)).toNatClampNeg) (a4 - a4 / (4 : Int32) * (4 : Int32))) 1 ((((8 : Int32) * (μ 2 (1 : Int32).toNatClampNeg)) + (1 : Int32)).toNatClampNeg) ((6 : Int32) + ((a4 / (4 : Int32)) - (a4 / (4 : Int32)) / (20 : Int32) * (20 : Int32)))) 1 ((((8 : Int32) * (μ 2 (1 : Int32).toNatClampNeg)) + (5 : Int32)).toNatClampNeg) (-1 : Int32)) 1 ((((8 : Int32) * (μ 2 (1 : Int32).toNatClampNeg)) + (6 : Int32)).toNatClampNeg) (-1 : Int32)) 2 (1 : Int32).toNatClampNeg) + (1 : Int32))) o ((gw_up (gw_up (gw_up (gw_up (gw_up μ 1 (((8 : Int32) * (μ 2 (1 : Int32).toNatClampNeg)).toNatClampNeg) (a4 - a4 / (4 : Int32) * (4 : Int32))) 1 ((((8 : Int32) * (μ 2 (1 : Int32).toNatClampNeg)) + (1 : Int32)).toNatClampNeg) ((6 : Int32) + ((a4 / (4 : Int32)) - (a4 / (4 : Int32)) / (20 : Int32) * (20 : Int32)))) 1 ((((8 : Int32) * (μ 2 (1 : Int32).toNatClampNeg)) + (5 : Int32)).toNatClampNeg) (-1 : Int32)) 1 ((((8 : Int32) * (μ 2 (1 : Int32).toNatClampNeg)) + (6 : Int32)).toNatClampNeg) (-1 : Int32)) 2 ((1 : Int32).toNatClampNeg) (((gw_up (gw_up (gw_up (gw_up μ 1 (((8 : Int32) * (μ 2 (1 : Int32).toNatClampNeg)).toNatClampNeg) (a4 - a4 / (4 : Int32) * (4 : Int32))) 1 ((((8 : Int32) * (μ 2 (1 : Int32).toNatClampNeg)) + (1 : Int32)).toNatClampNeg) ((6 : Int32) + ((a4 / (4 : Int32)) - (a4 / (4 : Int32)) / (20 : Int32) * (20 : Int32)))) 1 ((((8 : Int32) * (μ 2 (1 : Int32).toNatClampNeg)) + (5 : Int32)).toNatClampNeg) (-1 : Int32)) 1 ((((8 : Int32) * (μ 2 (1 : Int32).toNatClampNeg)) + (6 : Int32)).toNatClampNeg) (-1 : Int32)) 2 (1 : Int32).toNatClampNeg) + (1 : Int32))) 1 ((8 : Int32) * (μ 2 (1 : Int32).toNatClampNeg)).toNatClampNeg) ((gw_up (gw_up (gw_up (gw_up (gw_up μ 1 (((8 : Int32) * (μ 2 (1 : Int32).toNatClampNeg)).toNatClampNeg) (a4 - a4 / (4 : Int32) * (4 : Int32))) 1 ((((8 : Int32) * (μ 2 (1 : Int32).toNatClampNeg)) + (1 : Int32)).toNatClampNeg) ((6 : Int32) + ((a4 / (4 : Int32)) - (a4 / (4 : Int32)) / (20 : Int32) * (20 : Int32)))) 1 ((((8 : Int32) * (μ 2 (1 : Int32).toNatClampNeg)) + (5 : Int32)).toNatClampNeg) (-1 : Int32)) 1 ((((8 : Int32) * (μ 2 (1 : Int32).toNatClampNeg)) + (6 : Int32)).toNatClampNeg) (-1 : Int32)) 2 ((1 : Int32).toNatClampNeg) (((gw_up (gw_up (gw_up (gw_up μ 1 (((8 : Int32) * (μ 2 (1 : Int32).toNatClampNeg)).toNatClampNeg) (a4 - a4 / (4 : Int32) * (4 : Int32))) 1 ((((8 : Int32) * (μ 2 (1 : Int32).toNatClampNeg)) + (1 : Int32)).toNatClampNeg) ((6 : Int32) + ((a4 / (4 : Int32)) - (a4 / (4 : Int32)) / (20 : Int32) * (20 : Int32)))) 1 ((((8 : Int32) * (μ 2 (1 : Int32).toNatClampNeg)) + (5 : Int32)).toNatClampNeg) (-1 : Int32)) 1 ((((8 : Int32) * (μ 2 (1 : Int32).toNatClampNeg)) + (6 : Int32)).toNatClampNeg) (-1 : Int32)) 2 (1 : Int32).toNatClampNeg) + (1 : Int32))) 1 (((8 : Int32) * (μ 2 (1 : Int32).toNatClampNeg)) + (1 : Int32)).toNatClampNeg) r10 hr10) rfl (Nat.le_of_ble_eq_true rfl) gw_atM rfl rfl dL_adds_210 (gw_rmk rfl) rfl (fun e h => by rw [he] at h; cases h) (fun y11z h => ?_)
    cases he.symm.trans h
    refine gj_iload C 0 dL_adds_213 rfl ?_
    refine gj_ic_ne C 222 dL_adds_215 (by decide) (fun c => ?_) (fun c => ?_)
    · replace hf := gw_iff hf c
      refine gj_iconst (v := 0) C dL_adds_222 (by decide) ?_
      cases hf
      exact gj_zret C E (by decide) dL_adds_223 (Nat.le_of_ble_eq_true rfl) (Nat.le_of_ble_eq_true rfl)
    · replace hf := gw_ift hf c
      refine gj_iconst (v := 1) C dL_adds_218 (by decide) ?_
      refine gj_goto C 223 dL_adds_219 (by decide) ?_
      cases hf
      exact gj_zret C E (by decide) dL_adds_223 (Nat.le_of_ble_eq_true rfl) (Nat.le_of_ble_eq_true rfl)
  · replace hf := gw_iff hf c
    refine gj_aload_n C 3 dL_adds_5 rfl ?_
    refine gj_iconst (v := 0) C dL_adds_6 (by decide) ?_
    obtain ⟨g12, hf⟩ := gw_ifs hf
    refine gj_bld (j := 2) C (by decide) (gw_ibv g12) dL_adds_7 ?_
    refine gj_istore C 6 [(6, .int (μ 2 (0 : Int32).toNatClampNeg)), (0, .ref (gw_a Γ 0)), (1, .ref (gw_a Γ 132)), (2, .ref (gw_a Γ 133)), (3, .ref (gw_a Γ 134)), (4, .int a4), (5, .int a5)] dL_adds_8 (by decide) rfl ?_
    refine gj_aload_n C 2 dL_adds_10 rfl ?_
    refine gj_bipush (v := 8) C dL_adds_11 (by decide) ?_
    refine gj_iload C 0 dL_adds_13 rfl ?_
    refine gj_imul C dL_adds_15 ?_
    refine gj_iload C 5 dL_adds_16 rfl ?_
    refine gj_iconst (v := 4) C dL_adds_18 (by decide) ?_
    refine gj_irem C dL_adds_19 (by decide) ?_
    obtain ⟨g13, hf⟩ := gw_ifs hf
    refine gj_bst (j := 0) C (by decide) (gw_ibv g13) dL_adds_20 ?_
    refine gj_aload_n C 2 dL_adds_21 rfl ?_
    refine gj_bipush (v := 8) C dL_adds_22 (by decide) ?_
    refine gj_iload C 0 dL_adds_24 rfl ?_
    refine gj_imul C dL_adds_26 ?_
    refine gj_iconst (v := 1) C dL_adds_27 (by decide) ?_
    refine gj_iadd C dL_adds_28 ?_
    refine gj_iconst (v := 1) C dL_adds_29 (by decide) ?_
    refine gj_iload C 5 dL_adds_30 rfl ?_
    refine gj_iconst (v := 4) C dL_adds_32 (by decide) ?_
    refine gj_idiv C dL_adds_33 (by decide) ?_
    refine gj_bipush (v := 6) C dL_adds_34 (by decide) ?_
    refine gj_irem C dL_adds_36 (by decide) ?_
    refine gj_iadd C dL_adds_37 ?_
    obtain ⟨g14, hf⟩ := gw_ifs hf
    refine gj_bst (j := 0) C (by decide) (gw_ibv g14) dL_adds_38 ?_
    refine gj_aload_n C 2 dL_adds_39 rfl ?_
    refine gj_bipush (v := 8) C dL_adds_40 (by decide) ?_
    refine gj_iload C 0 dL_adds_42 rfl ?_
    refine gj_imul C dL_adds_44 ?_
    refine gj_iconst (v := 2) C dL_adds_45 (by decide) ?_
    refine gj_iadd C dL_adds_46 ?_
    refine gj_iload C 5 dL_adds_47 rfl ?_
    refine gj_bipush (v := 24) C dL_adds_49 (by decide) ?_
    refine gj_idiv C dL_adds_51 (by decide) ?_
    refine gj_iconst (v := 3) C dL_adds_52 (by decide) ?_
    refine gj_irem C dL_adds_53 (by decide) ?_
    refine gj_if_ne C 61 dL_adds_54 (by decide) (fun c => ?_) (fun c => ?_)
    · replace hf := gw_iff hf c
      refine gj_iconst (v := 1) C dL_adds_61 (by decide) ?_
      refine gj_iload C 5 dL_adds_62 rfl ?_
      refine gj_bipush (v := 72) C dL_adds_64 (by decide) ?_
      refine gj_idiv C dL_adds_66 (by decide) ?_
      refine gj_iconst (v := 5) C dL_adds_67 (by decide) ?_
      refine gj_irem C dL_adds_68 (by decide) ?_
      refine gj_ishl C dL_adds_69 ?_
      refine gj_iconst (v := 1) C dL_adds_70 (by decide) ?_
      refine gj_iload C 5 dL_adds_71 rfl ?_
      refine gj_sipush (v := 360) C dL_adds_73 (by decide) ?_
      refine gj_idiv C dL_adds_76 (by decide) ?_
      refine gj_bipush (v := 30) C dL_adds_77 (by decide) ?_
      refine gj_irem C dL_adds_79 (by decide) ?_
      refine gj_ishl C dL_adds_80 ?_
      refine gj_ior C dL_adds_81 ?_
      obtain ⟨g15, hf⟩ := gw_ifs hf
      refine gj_bst (j := 0) C (by decide) (gw_ibv g15) dL_adds_82 ?_
      refine gj_aload_n C 4 dL_adds_83 rfl ?_
      refine gj_iconst (v := 0) C dL_adds_84 (by decide) ?_
      refine gj_dup2 C dL_adds_85 rfl rfl ?_
      obtain ⟨g16, hf⟩ := gw_ifs hf
      refine gj_bld (j := 2) C (by decide) (gw_ibv g16) dL_adds_86 ?_
      refine gj_iconst (v := 1) C dL_adds_87 (by decide) ?_
      refine gj_iadd C dL_adds_88 ?_
      obtain ⟨g17, hf⟩ := gw_ifs hf
      refine gj_bst (j := 2) C (by decide) (gw_ibv g17) dL_adds_89 ?_
      refine gj_aload_n C 1 dL_adds_90 rfl ?_
      refine gj_aload_n C 2 dL_adds_91 rfl ?_
      refine gj_bipush (v := 8) C dL_adds_92 (by decide) ?_
      refine gj_iload C 0 dL_adds_94 rfl ?_
      refine gj_imul C dL_adds_96 ?_
      obtain ⟨g18, hf⟩ := gw_ifs hf
      refine gj_bld (j := 0) C (by decide) (gw_ibv g18) dL_adds_97 ?_
      refine gj_aload_n C 2 dL_adds_98 rfl ?_
      refine gj_bipush (v := 8) C dL_adds_99 (by decide) ?_
      refine gj_iload C 0 dL_adds_101 rfl ?_
      refine gj_imul C dL_adds_103 ?_
      refine gj_iconst (v := 1) C dL_adds_104 (by decide) ?_
      refine gj_iadd C dL_adds_105 ?_
      obtain ⟨g19, hf⟩ := gw_ifs hf
      refine gj_bld (j := 0) C (by decide) (gw_ibv g19) dL_adds_106 ?_
      refine gj_aload_n C 2 dL_adds_107 rfl ?_
      refine gj_bipush (v := 8) C dL_adds_108 (by decide) ?_
      refine gj_iload C 0 dL_adds_110 rfl ?_
      refine gj_imul C dL_adds_112 ?_
      refine gj_iconst (v := 2) C dL_adds_113 (by decide) ?_
      refine gj_iadd C dL_adds_114 ?_
      obtain ⟨g20, hf⟩ := gw_ifs hf
      refine gj_bld (j := 0) C (by decide) (gw_ibv g20) dL_adds_115 ?_
      replace hf := gw_bnd hf
      obtain ⟨r21, hr21, hf⟩ := hf
      replace hf := gw_xn hf
      obtain ⟨y22, he, hf⟩ := hf
      refine gj_cVI (As := [.int ((gw_up (gw_up (gw_up (gw_up μ 0 (((8 : Int32) * (μ 2 (0 : Int32).toNatClampNeg)).toNatClampNeg) (a4 - a4 / (4 : Int32) * (4 : Int32))) 0 ((((8 : Int32) * (μ 2 (0 : Int32).toNatClampNeg)) + (1 : Int32)).toNatClampNeg) ((1 : Int32) + ((a4 / (4 : Int32)) - (a4 / (4 : Int32)) / (6 : Int32) * (6 : Int32)))) 0 ((((8 : Int32) * (μ 2 (0 : Int32).toNatClampNeg)) + (2 : Int32)).toNatClampNeg) (((1 : Int32) <<< (((a4 / (72 : Int32)) - (a4 / (72 : Int32)) / (5 : Int32) * (5 : Int32)) &&& 31)) ||| ((1 : Int32) <<< (((a4 / (360 : Int32)) - (a4 / (360 : Int32)) / (30 : Int32) * (30 : Int32)) &&& 31)))) 2 ((0 : Int32).toNatClampNeg) (((gw_up (gw_up (gw_up μ 0 (((8 : Int32) * (μ 2 (0 : Int32).toNatClampNeg)).toNatClampNeg) (a4 - a4 / (4 : Int32) * (4 : Int32))) 0 ((((8 : Int32) * (μ 2 (0 : Int32).toNatClampNeg)) + (1 : Int32)).toNatClampNeg) ((1 : Int32) + ((a4 / (4 : Int32)) - (a4 / (4 : Int32)) / (6 : Int32) * (6 : Int32)))) 0 ((((8 : Int32) * (μ 2 (0 : Int32).toNatClampNeg)) + (2 : Int32)).toNatClampNeg) (((1 : Int32) <<< (((a4 / (72 : Int32)) - (a4 / (72 : Int32)) / (5 : Int32) * (5 : Int32)) &&& 31)) ||| ((1 : Int32) <<< (((a4 / (360 : Int32)) - (a4 / (360 : Int32)) / (30 : Int32) * (30 : Int32)) &&& 31)))) 2 (0 : Int32).toNatClampNeg) + (1 : Int32))) 0 ((8 : Int32) * (μ 2 (0 : Int32).toNatClampNeg)).toNatClampNeg), .int ((gw_up (gw_up (gw_up (gw_up μ 0 (((8 : Int32) * (μ 2 (0 : Int32).toNatClampNeg)).toNatClampNeg) (a4 - a4 / (4 : Int32) * (4 : Int32))) 0 ((((8 : Int32) * (μ 2 (0 : Int32).toNatClampNeg)) + (1 : Int32)).toNatClampNeg) ((1 : Int32) + ((a4 / (4 : Int32)) - (a4 / (4 : Int32)) / (6 : Int32) * (6 : Int32)))) 0 ((((8 : Int32) * (μ 2 (0 : Int32).toNatClampNeg)) + (2 : Int32)).toNatClampNeg) (((1 : Int32) <<< (((a4 / (72 : Int32)) - (a4 / (72 : Int32)) / (5 : Int32) * (5 : Int32)) &&& 31)) ||| ((1 : Int32) <<< (((a4 / (360 : Int32)) - (a4 / (360 : Int32)) / (30 : Int32) * (30 : Int32)) &&& 31)))) 2 ((0 : Int32).toNatClampNeg) (((gw_up (gw_up (gw_up μ 0 (((8 : Int32) * (μ 2 (0 : Int32).toNatClampNeg)).toNatClampNeg) (a4 - a4 / (4 : Int32) * (4 : Int32))) 0 ((((8 : Int32) * (μ 2 (0 : Int32).toNatClampNeg)) + (1 : Int32)).toNatClampNeg) ((1 : Int32) + ((a4 / (4 : Int32)) - (a4 / (4 : Int32)) / (6 : Int32) * (6 : Int32)))) 0 ((((8 : Int32) * (μ 2 (0 : Int32).toNatClampNeg)) + (2 : Int32)).toNatClampNeg) (((1 : Int32) <<< (((a4 / (72 : Int32)) - (a4 / (72 : Int32)) / (5 : Int32) * (5 : Int32)) &&& 31)) ||| ((1 : Int32) <<< (((a4 / (360 : Int32)) - (a4 / (360 : Int32)) / (30 : Int32) * (30 : Int32)) &&& 31)))) 2 (0 : Int32).toNatClampNeg) + (1 : Int32))) 0 (((8 : Int32) * (μ 2 (0 : Int32).toNatClampNeg)) + (1 : Int32)).toNatClampNeg), .int ((gw_up (gw_up (gw_up (gw_up μ 0 (((8 : Int32) * (μ 2 (0 : Int32).toNatClampNeg)).toNatClampNeg) (a4 - a4 / (4 : Int32) * (4 : Int32))) 0 ((((8 : Int32) * (μ 2 (0 : Int32).toNatClampNeg)) + (1 : Int32)).toNatClampNeg) ((1 : Int32) + ((a4 / (4 : Int32)) - (a4 / (4 : Int32)) / (6 : Int32) * (6 : Int32)))) 0 ((((8 : Int32) * (μ 2 (0 : Int32).toNatClampNeg)) + (2 : Int32)).toNatClampNeg) (((1 : Int32) <<< (((a4 / (72 : Int32)) - (a4 / (72 : Int32)) / (5 : Int32) * (5 : Int32)) &&& 31)) ||| ((1 : Int32) <<< (((a4 / (360 : Int32)) - (a4 / (360 : Int32)) / (30 : Int32) * (30 : Int32)) &&& 31)))) 2 ((0 : Int32).toNatClampNeg) (((gw_up (gw_up (gw_up μ 0 (((8 : Int32) * (μ 2 (0 : Int32).toNatClampNeg)).toNatClampNeg) (a4 - a4 / (4 : Int32) * (4 : Int32))) 0 ((((8 : Int32) * (μ 2 (0 : Int32).toNatClampNeg)) + (1 : Int32)).toNatClampNeg) ((1 : Int32) + ((a4 / (4 : Int32)) - (a4 / (4 : Int32)) / (6 : Int32) * (6 : Int32)))) 0 ((((8 : Int32) * (μ 2 (0 : Int32).toNatClampNeg)) + (2 : Int32)).toNatClampNeg) (((1 : Int32) <<< (((a4 / (72 : Int32)) - (a4 / (72 : Int32)) / (5 : Int32) * (5 : Int32)) &&& 31)) ||| ((1 : Int32) <<< (((a4 / (360 : Int32)) - (a4 / (360 : Int32)) / (30 : Int32) * (30 : Int32)) &&& 31)))) 2 (0 : Int32).toNatClampNeg) + (1 : Int32))) 0 (((8 : Int32) * (μ 2 (0 : Int32).toNatClampNeg)) + (2 : Int32)).toNatClampNeg)]) (rest := []) C cb_L_225 (s_X3_addCourse (gw_l K) Γ τ (gw_up (gw_up (gw_up (gw_up μ 0 (((8 : Int32) * (μ 2 (0 : Int32).toNatClampNeg)).toNatClampNeg) (a4 - a4 / (4 : Int32) * (4 : Int32))) 0 ((((8 : Int32) * (μ 2 (0 : Int32).toNatClampNeg)) + (1 : Int32)).toNatClampNeg) ((1 : Int32) + ((a4 / (4 : Int32)) - (a4 / (4 : Int32)) / (6 : Int32) * (6 : Int32)))) 0 ((((8 : Int32) * (μ 2 (0 : Int32).toNatClampNeg)) + (2 : Int32)).toNatClampNeg) (((1 : Int32) <<< (((a4 / (72 : Int32)) - (a4 / (72 : Int32)) / (5 : Int32) * (5 : Int32)) &&& 31)) ||| ((1 : Int32) <<< (((a4 / (360 : Int32)) - (a4 / (360 : Int32)) / (30 : Int32) * (30 : Int32)) &&& 31)))) 2 ((0 : Int32).toNatClampNeg) (((gw_up (gw_up (gw_up μ 0 (((8 : Int32) * (μ 2 (0 : Int32).toNatClampNeg)).toNatClampNeg) (a4 - a4 / (4 : Int32) * (4 : Int32))) 0 ((((8 : Int32) * (μ 2 (0 : Int32).toNatClampNeg)) + (1 : Int32)).toNatClampNeg) ((1 : Int32) + ((a4 / (4 : Int32)) - (a4 / (4 : Int32)) / (6 : Int32) * (6 : Int32)))) 0 ((((8 : Int32) * (μ 2 (0 : Int32).toNatClampNeg)) + (2 : Int32)).toNatClampNeg) (((1 : Int32) <<< (((a4 / (72 : Int32)) - (a4 / (72 : Int32)) / (5 : Int32) * (5 : Int32)) &&& 31)) ||| ((1 : Int32) <<< (((a4 / (360 : Int32)) - (a4 / (360 : Int32)) / (30 : Int32) * (30 : Int32)) &&& 31)))) 2 (0 : Int32).toNatClampNeg) + (1 : Int32))) o ((gw_up (gw_up (gw_up (gw_up μ 0 (((8 : Int32) * (μ 2 (0 : Int32).toNatClampNeg)).toNatClampNeg) (a4 - a4 / (4 : Int32) * (4 : Int32))) 0 ((((8 : Int32) * (μ 2 (0 : Int32).toNatClampNeg)) + (1 : Int32)).toNatClampNeg) ((1 : Int32) + ((a4 / (4 : Int32)) - (a4 / (4 : Int32)) / (6 : Int32) * (6 : Int32)))) 0 ((((8 : Int32) * (μ 2 (0 : Int32).toNatClampNeg)) + (2 : Int32)).toNatClampNeg) (((1 : Int32) <<< (((a4 / (72 : Int32)) - (a4 / (72 : Int32)) / (5 : Int32) * (5 : Int32)) &&& 31)) ||| ((1 : Int32) <<< (((a4 / (360 : Int32)) - (a4 / (360 : Int32)) / (30 : Int32) * (30 : Int32)) &&& 31)))) 2 ((0 : Int32).toNatClampNeg) (((gw_up (gw_up (gw_up μ 0 (((8 : Int32) * (μ 2 (0 : Int32).toNatClampNeg)).toNatClampNeg) (a4 - a4 / (4 : Int32) * (4 : Int32))) 0 ((((8 : Int32) * (μ 2 (0 : Int32).toNatClampNeg)) + (1 : Int32)).toNatClampNeg) ((1 : Int32) + ((a4 / (4 : Int32)) - (a4 / (4 : Int32)) / (6 : Int32) * (6 : Int32)))) 0 ((((8 : Int32) * (μ 2 (0 : Int32).toNatClampNeg)) + (2 : Int32)).toNatClampNeg) (((1 : Int32) <<< (((a4 / (72 : Int32)) - (a4 / (72 : Int32)) / (5 : Int32) * (5 : Int32)) &&& 31)) ||| ((1 : Int32) <<< (((a4 / (360 : Int32)) - (a4 / (360 : Int32)) / (30 : Int32) * (30 : Int32)) &&& 31)))) 2 (0 : Int32).toNatClampNeg) + (1 : Int32))) 0 ((8 : Int32) * (μ 2 (0 : Int32).toNatClampNeg)).toNatClampNeg) ((gw_up (gw_up (gw_up (gw_up μ 0 (((8 : Int32) * (μ 2 (0 : Int32).toNatClampNeg)).toNatClampNeg) (a4 - a4 / (4 : Int32) * (4 : Int32))) 0 ((((8 : Int32) * (μ 2 (0 : Int32).toNatClampNeg)) + (1 : Int32)).toNatClampNeg) ((1 : Int32) + ((a4 / (4 : Int32)) - (a4 / (4 : Int32)) / (6 : Int32) * (6 : Int32)))) 0 ((((8 : Int32) * (μ 2 (0 : Int32).toNatClampNeg)) + (2 : Int32)).toNatClampNeg) (((1 : Int32) <<< (((a4 / (72 : Int32)) - (a4 / (72 : Int32)) / (5 : Int32) * (5 : Int32)) &&& 31)) ||| ((1 : Int32) <<< (((a4 / (360 : Int32)) - (a4 / (360 : Int32)) / (30 : Int32) * (30 : Int32)) &&& 31)))) 2 ((0 : Int32).toNatClampNeg) (((gw_up (gw_up (gw_up μ 0 (((8 : Int32) * (μ 2 (0 : Int32).toNatClampNeg)).toNatClampNeg) (a4 - a4 / (4 : Int32) * (4 : Int32))) 0 ((((8 : Int32) * (μ 2 (0 : Int32).toNatClampNeg)) + (1 : Int32)).toNatClampNeg) ((1 : Int32) + ((a4 / (4 : Int32)) - (a4 / (4 : Int32)) / (6 : Int32) * (6 : Int32)))) 0 ((((8 : Int32) * (μ 2 (0 : Int32).toNatClampNeg)) + (2 : Int32)).toNatClampNeg) (((1 : Int32) <<< (((a4 / (72 : Int32)) - (a4 / (72 : Int32)) / (5 : Int32) * (5 : Int32)) &&& 31)) ||| ((1 : Int32) <<< (((a4 / (360 : Int32)) - (a4 / (360 : Int32)) / (30 : Int32) * (30 : Int32)) &&& 31)))) 2 (0 : Int32).toNatClampNeg) + (1 : Int32))) 0 (((8 : Int32) * (μ 2 (0 : Int32).toNatClampNeg)) + (1 : Int32)).toNatClampNeg) ((gw_up (gw_up (gw_up (gw_up μ 0 (((8 : Int32) * (μ 2 (0 : Int32).toNatClampNeg)).toNatClampNeg) (a4 - a4 / (4 : Int32) * (4 : Int32))) 0 ((((8 : Int32) * (μ 2 (0 : Int32).toNatClampNeg)) + (1 : Int32)).toNatClampNeg) ((1 : Int32) + ((a4 / (4 : Int32)) - (a4 / (4 : Int32)) / (6 : Int32) * (6 : Int32)))) 0 ((((8 : Int32) * (μ 2 (0 : Int32).toNatClampNeg)) + (2 : Int32)).toNatClampNeg) (((1 : Int32) <<< (((a4 / (72 : Int32)) - (a4 / (72 : Int32)) / (5 : Int32) * (5 : Int32)) &&& 31)) ||| ((1 : Int32) <<< (((a4 / (360 : Int32)) - (a4 / (360 : Int32)) / (30 : Int32) * (30 : Int32)) &&& 31)))) 2 ((0 : Int32).toNatClampNeg) (((gw_up (gw_up (gw_up μ 0 (((8 : Int32) * (μ 2 (0 : Int32).toNatClampNeg)).toNatClampNeg) (a4 - a4 / (4 : Int32) * (4 : Int32))) 0 ((((8 : Int32) * (μ 2 (0 : Int32).toNatClampNeg)) + (1 : Int32)).toNatClampNeg) ((1 : Int32) + ((a4 / (4 : Int32)) - (a4 / (4 : Int32)) / (6 : Int32) * (6 : Int32)))) 0 ((((8 : Int32) * (μ 2 (0 : Int32).toNatClampNeg)) + (2 : Int32)).toNatClampNeg) (((1 : Int32) <<< (((a4 / (72 : Int32)) - (a4 / (72 : Int32)) / (5 : Int32) * (5 : Int32)) &&& 31)) ||| ((1 : Int32) <<< (((a4 / (360 : Int32)) - (a4 / (360 : Int32)) / (30 : Int32) * (30 : Int32)) &&& 31)))) 2 (0 : Int32).toNatClampNeg) + (1 : Int32))) 0 (((8 : Int32) * (μ 2 (0 : Int32).toNatClampNeg)) + (2 : Int32)).toNatClampNeg) r21 hr21) rfl (Nat.le_of_ble_eq_true rfl) gw_atM rfl rfl dL_adds_116 (gw_rmk rfl) rfl (fun e h => by rw [he] at h; cases h) (fun y22z h => ?_)
      cases he.symm.trans h
      refine gj_iload C 0 dL_adds_119 rfl ?_
      refine gj_ic_ne C 128 dL_adds_121 (by decide) (fun c => ?_) (fun c => ?_)
      · replace hf := gw_iff hf c
        refine gj_iconst (v := 0) C dL_adds_128 (by decide) ?_
        cases hf
        exact gj_zret C E (by decide) dL_adds_129 (Nat.le_of_ble_eq_true rfl) (Nat.le_of_ble_eq_true rfl)
      · replace hf := gw_ift hf c
        refine gj_iconst (v := 1) C dL_adds_124 (by decide) ?_
        refine gj_goto C 129 dL_adds_125 (by decide) ?_
        cases hf
        exact gj_zret C E (by decide) dL_adds_129 (Nat.le_of_ble_eq_true rfl) (Nat.le_of_ble_eq_true rfl)
    · replace hf := gw_ift hf c
      refine gj_iconst (v := 0) C dL_adds_57 (by decide) ?_
      refine gj_goto C 82 dL_adds_58 (by decide) ?_
      obtain ⟨g23, hf⟩ := gw_ifs hf
      refine gj_bst (j := 0) C (by decide) (gw_ibv g23) dL_adds_82 ?_
      refine gj_aload_n C 4 dL_adds_83 rfl ?_
      refine gj_iconst (v := 0) C dL_adds_84 (by decide) ?_
      refine gj_dup2 C dL_adds_85 rfl rfl ?_
      obtain ⟨g24, hf⟩ := gw_ifs hf
      refine gj_bld (j := 2) C (by decide) (gw_ibv g24) dL_adds_86 ?_
      refine gj_iconst (v := 1) C dL_adds_87 (by decide) ?_
      refine gj_iadd C dL_adds_88 ?_
      obtain ⟨g25, hf⟩ := gw_ifs hf
      refine gj_bst (j := 2) C (by decide) (gw_ibv g25) dL_adds_89 ?_
      refine gj_aload_n C 1 dL_adds_90 rfl ?_
      refine gj_aload_n C 2 dL_adds_91 rfl ?_
      refine gj_bipush (v := 8) C dL_adds_92 (by decide) ?_
      refine gj_iload C 0 dL_adds_94 rfl ?_
      refine gj_imul C dL_adds_96 ?_
      obtain ⟨g26, hf⟩ := gw_ifs hf
      refine gj_bld (j := 0) C (by decide) (gw_ibv g26) dL_adds_97 ?_
      refine gj_aload_n C 2 dL_adds_98 rfl ?_
      refine gj_bipush (v := 8) C dL_adds_99 (by decide) ?_
      refine gj_iload C 0 dL_adds_101 rfl ?_
      refine gj_imul C dL_adds_103 ?_
      refine gj_iconst (v := 1) C dL_adds_104 (by decide) ?_
      refine gj_iadd C dL_adds_105 ?_
      obtain ⟨g27, hf⟩ := gw_ifs hf
      refine gj_bld (j := 0) C (by decide) (gw_ibv g27) dL_adds_106 ?_
      refine gj_aload_n C 2 dL_adds_107 rfl ?_
      refine gj_bipush (v := 8) C dL_adds_108 (by decide) ?_
      refine gj_iload C 0 dL_adds_110 rfl ?_
      refine gj_imul C dL_adds_112 ?_
      refine gj_iconst (v := 2) C dL_adds_113 (by decide) ?_
      refine gj_iadd C dL_adds_114 ?_
      obtain ⟨g28, hf⟩ := gw_ifs hf
      refine gj_bld (j := 0) C (by decide) (gw_ibv g28) dL_adds_115 ?_
      replace hf := gw_bnd hf
      obtain ⟨r29, hr29, hf⟩ := hf
      replace hf := gw_xn hf
      obtain ⟨y30, he, hf⟩ := hf
      refine gj_cVI (As := [.int ((gw_up (gw_up (gw_up (gw_up μ 0 (((8 : Int32) * (μ 2 (0 : Int32).toNatClampNeg)).toNatClampNeg) (a4 - a4 / (4 : Int32) * (4 : Int32))) 0 ((((8 : Int32) * (μ 2 (0 : Int32).toNatClampNeg)) + (1 : Int32)).toNatClampNeg) ((1 : Int32) + ((a4 / (4 : Int32)) - (a4 / (4 : Int32)) / (6 : Int32) * (6 : Int32)))) 0 ((((8 : Int32) * (μ 2 (0 : Int32).toNatClampNeg)) + (2 : Int32)).toNatClampNeg) (0 : Int32)) 2 ((0 : Int32).toNatClampNeg) (((gw_up (gw_up (gw_up μ 0 (((8 : Int32) * (μ 2 (0 : Int32).toNatClampNeg)).toNatClampNeg) (a4 - a4 / (4 : Int32) * (4 : Int32))) 0 ((((8 : Int32) * (μ 2 (0 : Int32).toNatClampNeg)) + (1 : Int32)).toNatClampNeg) ((1 : Int32) + ((a4 / (4 : Int32)) - (a4 / (4 : Int32)) / (6 : Int32) * (6 : Int32)))) 0 ((((8 : Int32) * (μ 2 (0 : Int32).toNatClampNeg)) + (2 : Int32)).toNatClampNeg) (0 : Int32)) 2 (0 : Int32).toNatClampNeg) + (1 : Int32))) 0 ((8 : Int32) * (μ 2 (0 : Int32).toNatClampNeg)).toNatClampNeg), .int ((gw_up (gw_up (gw_up (gw_up μ 0 (((8 : Int32) * (μ 2 (0 : Int32).toNatClampNeg)).toNatClampNeg) (a4 - a4 / (4 : Int32) * (4 : Int32))) 0 ((((8 : Int32) * (μ 2 (0 : Int32).toNatClampNeg)) + (1 : Int32)).toNatClampNeg) ((1 : Int32) + ((a4 / (4 : Int32)) - (a4 / (4 : Int32)) / (6 : Int32) * (6 : Int32)))) 0 ((((8 : Int32) * (μ 2 (0 : Int32).toNatClampNeg)) + (2 : Int32)).toNatClampNeg) (0 : Int32)) 2 ((0 : Int32).toNatClampNeg) (((gw_up (gw_up (gw_up μ 0 (((8 : Int32) * (μ 2 (0 : Int32).toNatClampNeg)).toNatClampNeg) (a4 - a4 / (4 : Int32) * (4 : Int32))) 0 ((((8 : Int32) * (μ 2 (0 : Int32).toNatClampNeg)) + (1 : Int32)).toNatClampNeg) ((1 : Int32) + ((a4 / (4 : Int32)) - (a4 / (4 : Int32)) / (6 : Int32) * (6 : Int32)))) 0 ((((8 : Int32) * (μ 2 (0 : Int32).toNatClampNeg)) + (2 : Int32)).toNatClampNeg) (0 : Int32)) 2 (0 : Int32).toNatClampNeg) + (1 : Int32))) 0 (((8 : Int32) * (μ 2 (0 : Int32).toNatClampNeg)) + (1 : Int32)).toNatClampNeg), .int ((gw_up (gw_up (gw_up (gw_up μ 0 (((8 : Int32) * (μ 2 (0 : Int32).toNatClampNeg)).toNatClampNeg) (a4 - a4 / (4 : Int32) * (4 : Int32))) 0 ((((8 : Int32) * (μ 2 (0 : Int32).toNatClampNeg)) + (1 : Int32)).toNatClampNeg) ((1 : Int32) + ((a4 / (4 : Int32)) - (a4 / (4 : Int32)) / (6 : Int32) * (6 : Int32)))) 0 ((((8 : Int32) * (μ 2 (0 : Int32).toNatClampNeg)) + (2 : Int32)).toNatClampNeg) (0 : Int32)) 2 ((0 : Int32).toNatClampNeg) (((gw_up (gw_up (gw_up μ 0 (((8 : Int32) * (μ 2 (0 : Int32).toNatClampNeg)).toNatClampNeg) (a4 - a4 / (4 : Int32) * (4 : Int32))) 0 ((((8 : Int32) * (μ 2 (0 : Int32).toNatClampNeg)) + (1 : Int32)).toNatClampNeg) ((1 : Int32) + ((a4 / (4 : Int32)) - (a4 / (4 : Int32)) / (6 : Int32) * (6 : Int32)))) 0 ((((8 : Int32) * (μ 2 (0 : Int32).toNatClampNeg)) + (2 : Int32)).toNatClampNeg) (0 : Int32)) 2 (0 : Int32).toNatClampNeg) + (1 : Int32))) 0 (((8 : Int32) * (μ 2 (0 : Int32).toNatClampNeg)) + (2 : Int32)).toNatClampNeg)]) (rest := []) C cb_L_225 (s_X3_addCourse (gw_l K) Γ τ (gw_up (gw_up (gw_up (gw_up μ 0 (((8 : Int32) * (μ 2 (0 : Int32).toNatClampNeg)).toNatClampNeg) (a4 - a4 / (4 : Int32) * (4 : Int32))) 0 ((((8 : Int32) * (μ 2 (0 : Int32).toNatClampNeg)) + (1 : Int32)).toNatClampNeg) ((1 : Int32) + ((a4 / (4 : Int32)) - (a4 / (4 : Int32)) / (6 : Int32) * (6 : Int32)))) 0 ((((8 : Int32) * (μ 2 (0 : Int32).toNatClampNeg)) + (2 : Int32)).toNatClampNeg) (0 : Int32)) 2 ((0 : Int32).toNatClampNeg) (((gw_up (gw_up (gw_up μ 0 (((8 : Int32) * (μ 2 (0 : Int32).toNatClampNeg)).toNatClampNeg) (a4 - a4 / (4 : Int32) * (4 : Int32))) 0 ((((8 : Int32) * (μ 2 (0 : Int32).toNatClampNeg)) + (1 : Int32)).toNatClampNeg) ((1 : Int32) + ((a4 / (4 : Int32)) - (a4 / (4 : Int32)) / (6 : Int32) * (6 : Int32)))) 0 ((((8 : Int32) * (μ 2 (0 : Int32).toNatClampNeg)) + (2 : Int32)).toNatClampNeg) (0 : Int32)) 2 (0 : Int32).toNatClampNeg) + (1 : Int32))) o ((gw_up (gw_up (gw_up (gw_up μ 0 (((8 : Int32) * (μ 2 (0 : Int32).toNatClampNeg)).toNatClampNeg) (a4 - a4 / (4 : Int32) * (4 : Int32))) 0 ((((8 : Int32) * (μ 2 (0 : Int32).toNatClampNeg)) + (1 : Int32)).toNatClampNeg) ((1 : Int32) + ((a4 / (4 : Int32)) - (a4 / (4 : Int32)) / (6 : Int32) * (6 : Int32)))) 0 ((((8 : Int32) * (μ 2 (0 : Int32).toNatClampNeg)) + (2 : Int32)).toNatClampNeg) (0 : Int32)) 2 ((0 : Int32).toNatClampNeg) (((gw_up (gw_up (gw_up μ 0 (((8 : Int32) * (μ 2 (0 : Int32).toNatClampNeg)).toNatClampNeg) (a4 - a4 / (4 : Int32) * (4 : Int32))) 0 ((((8 : Int32) * (μ 2 (0 : Int32).toNatClampNeg)) + (1 : Int32)).toNatClampNeg) ((1 : Int32) + ((a4 / (4 : Int32)) - (a4 / (4 : Int32)) / (6 : Int32) * (6 : Int32)))) 0 ((((8 : Int32) * (μ 2 (0 : Int32).toNatClampNeg)) + (2 : Int32)).toNatClampNeg) (0 : Int32)) 2 (0 : Int32).toNatClampNeg) + (1 : Int32))) 0 ((8 : Int32) * (μ 2 (0 : Int32).toNatClampNeg)).toNatClampNeg) ((gw_up (gw_up (gw_up (gw_up μ 0 (((8 : Int32) * (μ 2 (0 : Int32).toNatClampNeg)).toNatClampNeg) (a4 - a4 / (4 : Int32) * (4 : Int32))) 0 ((((8 : Int32) * (μ 2 (0 : Int32).toNatClampNeg)) + (1 : Int32)).toNatClampNeg) ((1 : Int32) + ((a4 / (4 : Int32)) - (a4 / (4 : Int32)) / (6 : Int32) * (6 : Int32)))) 0 ((((8 : Int32) * (μ 2 (0 : Int32).toNatClampNeg)) + (2 : Int32)).toNatClampNeg) (0 : Int32)) 2 ((0 : Int32).toNatClampNeg) (((gw_up (gw_up (gw_up μ 0 (((8 : Int32) * (μ 2 (0 : Int32).toNatClampNeg)).toNatClampNeg) (a4 - a4 / (4 : Int32) * (4 : Int32))) 0 ((((8 : Int32) * (μ 2 (0 : Int32).toNatClampNeg)) + (1 : Int32)).toNatClampNeg) ((1 : Int32) + ((a4 / (4 : Int32)) - (a4 / (4 : Int32)) / (6 : Int32) * (6 : Int32)))) 0 ((((8 : Int32) * (μ 2 (0 : Int32).toNatClampNeg)) + (2 : Int32)).toNatClampNeg) (0 : Int32)) 2 (0 : Int32).toNatClampNeg) + (1 : Int32))) 0 (((8 : Int32) * (μ 2 (0 : Int32).toNatClampNeg)) + (1 : Int32)).toNatClampNeg) ((gw_up (gw_up (gw_up (gw_up μ 0 (((8 : Int32) * (μ 2 (0 : Int32).toNatClampNeg)).toNatClampNeg) (a4 - a4 / (4 : Int32) * (4 : Int32))) 0 ((((8 : Int32) * (μ 2 (0 : Int32).toNatClampNeg)) + (1 : Int32)).toNatClampNeg) ((1 : Int32) + ((a4 / (4 : Int32)) - (a4 / (4 : Int32)) / (6 : Int32) * (6 : Int32)))) 0 ((((8 : Int32) * (μ 2 (0 : Int32).toNatClampNeg)) + (2 : Int32)).toNatClampNeg) (0 : Int32)) 2 ((0 : Int32).toNatClampNeg) (((gw_up (gw_up (gw_up μ 0 (((8 : Int32) * (μ 2 (0 : Int32).toNatClampNeg)).toNatClampNeg) (a4 - a4 / (4 : Int32) * (4 : Int32))) 0 ((((8 : Int32) * (μ 2 (0 : Int32).toNatClampNeg)) + (1 : Int32)).toNatClampNeg) ((1 : Int32) + ((a4 / (4 : Int32)) - (a4 / (4 : Int32)) / (6 : Int32) * (6 : Int32)))) 0 ((((8 : Int32) * (μ 2 (0 : Int32).toNatClampNeg)) + (2 : Int32)).toNatClampNeg) (0 : Int32)) 2 (0 : Int32).toNatClampNeg) + (1 : Int32))) 0 (((8 : Int32) * (μ 2 (0 : Int32).toNatClampNeg)) + (2 : Int32)).toNatClampNeg) r29 hr29) rfl (Nat.le_of_ble_eq_true rfl) gw_atM rfl rfl dL_adds_116 (gw_rmk rfl) rfl (fun e h => by rw [he] at h; cases h) (fun y30z h => ?_)
      cases he.symm.trans h
      refine gj_iload C 0 dL_adds_119 rfl ?_
      refine gj_ic_ne C 128 dL_adds_121 (by decide) (fun c => ?_) (fun c => ?_)
      · replace hf := gw_iff hf c
        refine gj_iconst (v := 0) C dL_adds_128 (by decide) ?_
        cases hf
        exact gj_zret C E (by decide) dL_adds_129 (Nat.le_of_ble_eq_true rfl) (Nat.le_of_ble_eq_true rfl)
      · replace hf := gw_ift hf c
        refine gj_iconst (v := 1) C dL_adds_124 (by decide) ?_
        refine gj_goto C 129 dL_adds_125 (by decide) ?_
        cases hf
        exact gj_zret C E (by decide) dL_adds_129 (Nat.le_of_ble_eq_true rfl) (Nat.le_of_ble_eq_true rfl)
set_option maxRecDepth 100000 in
set_option maxHeartbeats 4000000 in
theorem s_L_isOf (l : Launch) (Γ : gw_G) (τ μ : gw_S) (o : Nat → Int64) (a3 : Int32) (a4 : Int32) (a5 : Int32) (r : Int32) (hf : f_L_isOf μ o a3 a4 a5 = some r) : gw_M l yL_isOf [.code yL_isOf cL_isOf 6 (some .boolean)] gr_L_isOf 0 0 Γ [.ref (gw_a Γ 132), .ref (gw_a Γ 133), .ref (gw_a Γ 135), .int a3, .int a4, .int a5] (gw_W Γ τ μ o) (gw_qi Γ r (gw_W Γ τ μ o)) := by
  refine gw_enter (by decide) (Nat.le_of_ble_eq_true rfl) (fun K C E => ?_)
  unfold f_L_isOf at hf
  refine gj_iload_n C 3 dL_isOf_0 rfl ?_
  refine gj_bipush (v := 6) C dL_isOf_1 (by decide) ?_
  refine gj_ic_eq C 18 dL_isOf_3 (by decide) (fun c => ?_) (fun c => ?_)
  · replace hf := gw_ift hf c
    refine gj_aload_n C 1 dL_isOf_18 rfl ?_
    refine gj_bipush (v := 8) C dL_isOf_19 (by decide) ?_
    refine gj_iload C 4 dL_isOf_21 rfl ?_
    refine gj_imul C dL_isOf_23 ?_
    refine gj_iconst (v := 3) C dL_isOf_24 (by decide) ?_
    refine gj_iadd C dL_isOf_25 ?_
    obtain ⟨g1, hf⟩ := gw_ifs hf
    refine gj_bld (j := 1) C (by decide) (gw_ibv g1) dL_isOf_26 ?_
    refine gj_iload C 5 dL_isOf_27 rfl ?_
    replace hf := gw_bnd hf
    obtain ⟨r2, hr2, hf⟩ := hf
    refine gj_cSi (As := [.int (μ 1 (((8 : Int32) * a4) + (3 : Int32)).toNatClampNeg), .int a5]) (rest := []) C cb_L_15 (s_L_has (gw_l K) Γ τ μ o (μ 1 (((8 : Int32) * a4) + (3 : Int32)).toNatClampNeg) a5 r2 hr2) rfl (Nat.le_of_ble_eq_true rfl) dL_isOf_29 (gw_rmk rfl) rfl ?_
    refine gj_goto C 82 dL_isOf_32 (by decide) ?_
    obtain ⟨g3, hf⟩ := gw_ifs hf
    cases hf
    exact gj_zret C E (gw_nb g3) dL_isOf_82 (Nat.le_of_ble_eq_true rfl) (Nat.le_of_ble_eq_true rfl)
  · replace hf := gw_iff hf c
    refine gj_iload_n C 3 dL_isOf_6 rfl ?_
    refine gj_bipush (v := 7) C dL_isOf_7 (by decide) ?_
    refine gj_ic_eq C 18 dL_isOf_9 (by decide) (fun c => ?_) (fun c => ?_)
    · replace hf := gw_ift hf c
      refine gj_aload_n C 1 dL_isOf_18 rfl ?_
      refine gj_bipush (v := 8) C dL_isOf_19 (by decide) ?_
      refine gj_iload C 4 dL_isOf_21 rfl ?_
      refine gj_imul C dL_isOf_23 ?_
      refine gj_iconst (v := 3) C dL_isOf_24 (by decide) ?_
      refine gj_iadd C dL_isOf_25 ?_
      obtain ⟨g4, hf⟩ := gw_ifs hf
      refine gj_bld (j := 1) C (by decide) (gw_ibv g4) dL_isOf_26 ?_
      refine gj_iload C 5 dL_isOf_27 rfl ?_
      replace hf := gw_bnd hf
      obtain ⟨r5, hr5, hf⟩ := hf
      refine gj_cSi (As := [.int (μ 1 (((8 : Int32) * a4) + (3 : Int32)).toNatClampNeg), .int a5]) (rest := []) C cb_L_15 (s_L_has (gw_l K) Γ τ μ o (μ 1 (((8 : Int32) * a4) + (3 : Int32)).toNatClampNeg) a5 r5 hr5) rfl (Nat.le_of_ble_eq_true rfl) dL_isOf_29 (gw_rmk rfl) rfl ?_
      refine gj_goto C 82 dL_isOf_32 (by decide) ?_
      obtain ⟨g6, hf⟩ := gw_ifs hf
      cases hf
      exact gj_zret C E (gw_nb g6) dL_isOf_82 (Nat.le_of_ble_eq_true rfl) (Nat.le_of_ble_eq_true rfl)
    · replace hf := gw_iff hf c
      refine gj_iload_n C 3 dL_isOf_12 rfl ?_
      refine gj_bipush (v := 12) C dL_isOf_13 (by decide) ?_
      refine gj_ic_ne C 35 dL_isOf_15 (by decide) (fun c => ?_) (fun c => ?_)
      · replace hf := gw_iff hf c
        refine gj_iload_n C 3 dL_isOf_35 rfl ?_
        refine gj_bipush (v := 8) C dL_isOf_36 (by decide) ?_
        refine gj_ic_ne C 55 dL_isOf_38 (by decide) (fun c => ?_) (fun c => ?_)
        · replace hf := gw_iff hf c
          refine gj_iload_n C 3 dL_isOf_55 rfl ?_
          refine gj_bipush (v := 9) C dL_isOf_56 (by decide) ?_
          refine gj_ic_ne C 81 dL_isOf_58 (by decide) (fun c => ?_) (fun c => ?_)
          · replace hf := gw_iff hf c
            refine gj_iconst (v := 1) C dL_isOf_81 (by decide) ?_
            cases hf
            exact gj_zret C E (by decide) dL_isOf_82 (Nat.le_of_ble_eq_true rfl) (Nat.le_of_ble_eq_true rfl)
          · replace hf := gw_ift hf c
            refine gj_aload_n C 2 dL_isOf_61 rfl ?_
            refine gj_iload C 5 dL_isOf_62 rfl ?_
            obtain ⟨g7, hf⟩ := gw_ifs hf
            refine gj_lald C (gw_ibv g7) dL_isOf_64 ?_
            refine gj_iload C 4 dL_isOf_65 rfl ?_
            replace hf := gw_bnd hf
            obtain ⟨r8, hr8, hf⟩ := hf
            refine gj_cSi (As := [.long (o a5.toNatClampNeg), .int a4]) (rest := []) C cb_L_9 (s_L_place (gw_l K) Γ τ μ o (o a5.toNatClampNeg) a4 r8 hr8) rfl (Nat.le_of_ble_eq_true rfl) dL_isOf_67 (gw_rmk rfl) rfl ?_
            refine gj_if_lt C 77 dL_isOf_70 (by decide) (fun c => ?_) (fun c => ?_)
            · replace hf := gw_ift hf c
              refine gj_iconst (v := 0) C dL_isOf_77 (by decide) ?_
              refine gj_goto C 82 dL_isOf_78 (by decide) ?_
              cases hf
              exact gj_zret C E (by decide) dL_isOf_82 (Nat.le_of_ble_eq_true rfl) (Nat.le_of_ble_eq_true rfl)
            · replace hf := gw_iff hf c
              refine gj_iconst (v := 1) C dL_isOf_73 (by decide) ?_
              refine gj_goto C 82 dL_isOf_74 (by decide) ?_
              cases hf
              exact gj_zret C E (by decide) dL_isOf_82 (Nat.le_of_ble_eq_true rfl) (Nat.le_of_ble_eq_true rfl)
        · replace hf := gw_ift hf c
          refine gj_aload_n C 0 dL_isOf_41 rfl ?_
          refine gj_iload C 5 dL_isOf_42 rfl ?_
          replace hf := gw_bnd hf
          obtain ⟨r9, hr9, hf⟩ := hf
          refine gj_cSi (As := [.ref (gw_a Γ 132), .int a5]) (rest := []) C cb_L_26 (s_L_offers (gw_l K) Γ τ μ o a5 r9 hr9) rfl (Nat.le_of_ble_eq_true rfl) dL_isOf_44 (gw_rmk rfl) rfl ?_
          refine gj_iload C 4 dL_isOf_47 rfl ?_
          replace hf := gw_bnd hf
          obtain ⟨r10, hr10, hf⟩ := hf
          refine gj_cSi (As := [.int r9, .int a4]) (rest := []) C cb_L_15 (s_L_has (gw_l K) Γ τ μ o r9 a4 r10 hr10) rfl (Nat.le_of_ble_eq_true rfl) dL_isOf_49 (gw_rmk rfl) rfl ?_
          refine gj_goto C 82 dL_isOf_52 (by decide) ?_
          obtain ⟨g11, hf⟩ := gw_ifs hf
          cases hf
          exact gj_zret C E (gw_nb g11) dL_isOf_82 (Nat.le_of_ble_eq_true rfl) (Nat.le_of_ble_eq_true rfl)
      · replace hf := gw_ift hf c
        refine gj_aload_n C 1 dL_isOf_18 rfl ?_
        refine gj_bipush (v := 8) C dL_isOf_19 (by decide) ?_
        refine gj_iload C 4 dL_isOf_21 rfl ?_
        refine gj_imul C dL_isOf_23 ?_
        refine gj_iconst (v := 3) C dL_isOf_24 (by decide) ?_
        refine gj_iadd C dL_isOf_25 ?_
        obtain ⟨g12, hf⟩ := gw_ifs hf
        refine gj_bld (j := 1) C (by decide) (gw_ibv g12) dL_isOf_26 ?_
        refine gj_iload C 5 dL_isOf_27 rfl ?_
        replace hf := gw_bnd hf
        obtain ⟨r13, hr13, hf⟩ := hf
        refine gj_cSi (As := [.int (μ 1 (((8 : Int32) * a4) + (3 : Int32)).toNatClampNeg), .int a5]) (rest := []) C cb_L_15 (s_L_has (gw_l K) Γ τ μ o (μ 1 (((8 : Int32) * a4) + (3 : Int32)).toNatClampNeg) a5 r13 hr13) rfl (Nat.le_of_ble_eq_true rfl) dL_isOf_29 (gw_rmk rfl) rfl ?_
        refine gj_goto C 82 dL_isOf_32 (by decide) ?_
        obtain ⟨g14, hf⟩ := gw_ifs hf
        cases hf
        exact gj_zret C E (gw_nb g14) dL_isOf_82 (Nat.le_of_ble_eq_true rfl) (Nat.le_of_ble_eq_true rfl)
set_option maxRecDepth 100000 in
set_option maxHeartbeats 8000000 in
theorem jl_548 {K : gw_K} {Γ : gw_G} {cells slots b len : Nat} {xs : Nat → Int32} (C : gw_C K Γ cL_law 14 RL) (hX : va_X b len xs (gw_s K) (gw_s K).heap) (hbl : b < (gw_s K).heap.size) (hbA : ¬ gw_A Γ b) (hz : gw_z Γ = 0) (τ μ : gw_S) (o : Nat → Int64) (v7 : Int32) (w0 : Int32) (z : (gw_S × gw_S × (Nat → Int64) × Int32 × Int32) ⊕ (gw_S × gw_S × (Nat → Int64) × Int32 × Int32)) (hf : j_L_law_548 xs len τ μ o v7 w0 = some z) (hc : cells + 0 ≤ 600000) (hs : slots + 0 ≤ 7000000) (k : ∀ (s : gw_S × gw_S × (Nat → Int64) × Int32 × Int32) (c2 s2 : Nat), c2 ≤ cells + 0 → s2 ≤ slots + 0 → z = .inl s → gw_J K Γ room_1 c2 s2 (gw_W Γ s.1 s.2.1 s.2.2.1) 44 [(0, .ref b), (1, .ref (gw_a Γ 0)), (2, .ref (gw_a Γ 132)), (3, .ref (gw_a Γ 133)), (4, .ref (gw_a Γ 135)), (5, .ref (gw_a Γ 134)), (6, .int s.2.2.2.1), (7, .int s.2.2.2.2)] [])  : gw_J K Γ room_1 cells slots (gw_W Γ τ μ o) 548 [(0, .ref b), (1, .ref (gw_a Γ 0)), (2, .ref (gw_a Γ 132)), (3, .ref (gw_a Γ 133)), (4, .ref (gw_a Γ 135)), (5, .ref (gw_a Γ 134)), (7, .int v7)] [.int w0] := by
  refine gj_istore C 6 [(6, .int w0), (0, .ref b), (1, .ref (gw_a Γ 0)), (2, .ref (gw_a Γ 132)), (3, .ref (gw_a Γ 133)), (4, .ref (gw_a Γ 135)), (5, .ref (gw_a Γ 134)), (7, .int v7)] dL_law_548 (by decide) rfl ?_
  refine gj_iinc C 7 7 (v7 + 1) [(7, .int (v7 + 1)), (6, .int w0), (0, .ref b), (1, .ref (gw_a Γ 0)), (2, .ref (gw_a Γ 132)), (3, .ref (gw_a Γ 133)), (4, .ref (gw_a Γ 135)), (5, .ref (gw_a Γ 134))] dL_law_550 rfl rfl (by decide) rfl ?_
  refine gj_goto C 44 dL_law_553 (by decide) ?_
  cases hf
  exact gj_pick [2, 3, 4, 5, 6, 7, 1, 0] _ rfl (k _ _ _ (by omega) (by omega) rfl)
set_option maxRecDepth 100000 in
set_option maxHeartbeats 8000000 in
theorem jl_476 {K : gw_K} {Γ : gw_G} {cells slots b len : Nat} {xs : Nat → Int32} (C : gw_C K Γ cL_law 14 RL) (hX : va_X b len xs (gw_s K) (gw_s K).heap) (hbl : b < (gw_s K).heap.size) (hbA : ¬ gw_A Γ b) (hz : gw_z Γ = 0) (τ μ : gw_S) (o : Nat → Int64) (v6 : Int32) (v7 : Int32) (v8 : Int32) (z : (gw_S × gw_S × (Nat → Int64) × Int32 × Int32) ⊕ (gw_S × gw_S × (Nat → Int64) × Int32 × Int32)) (hf : j_L_law_476 xs len τ μ o v6 v7 v8 = some z) (hc : cells + 0 ≤ 600000) (hs : slots + 0 ≤ 7000000) (k : ∀ (s : gw_S × gw_S × (Nat → Int64) × Int32 × Int32) (c2 s2 : Nat), c2 ≤ cells + 0 → s2 ≤ slots + 0 → z = .inl s → gw_J K Γ room_1 c2 s2 (gw_W Γ s.1 s.2.1 s.2.2.1) 44 [(0, .ref b), (1, .ref (gw_a Γ 0)), (2, .ref (gw_a Γ 132)), (3, .ref (gw_a Γ 133)), (4, .ref (gw_a Γ 135)), (5, .ref (gw_a Γ 134)), (6, .int s.2.2.2.1), (7, .int s.2.2.2.2)] [])  : gw_J K Γ room_1 cells slots (gw_W Γ τ μ o) 476 [(0, .ref b), (1, .ref (gw_a Γ 0)), (2, .ref (gw_a Γ 132)), (3, .ref (gw_a Γ 133)), (4, .ref (gw_a Γ 135)), (5, .ref (gw_a Γ 134)), (6, .int v6), (7, .int v7), (8, .int v8)] [] := by
  refine gj_iload C 6 dL_law_476 rfl ?_
  refine gj_if_eq C 547 dL_law_478 (by decide) (fun c => ?_) (fun c => ?_)
  · replace hf := gw_ift hf c
    refine gj_iconst (v := 0) C dL_law_547 (by decide) ?_
    exact gj_pick [0, 1, 2, 3, 4, 5, 7] _ rfl (jl_548 C hX hbl hbA hz τ μ o v7 (0 : Int32) z hf (by omega) (by omega) (fun s c2 s2 hc hs he => k s c2 s2 (by omega) (by omega) he))
  · replace hf := gw_iff hf c
    refine gj_aload_n C 1 dL_law_481 rfl ?_
    refine gj_aload_n C 2 dL_law_482 rfl ?_
    refine gj_aload_n C 3 dL_law_483 rfl ?_
    refine gj_aload C 4 dL_law_484 rfl ?_
    refine gj_aload C 5 dL_law_486 rfl ?_
    replace hf := gw_bnd hf
    obtain ⟨r2, hr2, hf⟩ := hf
    refine gj_cSi (As := [.ref (gw_a Γ 0), .ref (gw_a Γ 132), .ref (gw_a Γ 133), .ref (gw_a Γ 135), .ref (gw_a Γ 134)]) (rest := []) C cb_L_232 (s_L_areCourses (gw_l K) Γ τ μ o r2 hr2) rfl (Nat.le_of_ble_eq_true rfl) dL_law_488 (gw_rmo rfl (by show _ ≤ 688196; omega) (by show _ ≤ 7036880; omega)) rfl ?_
    refine gj_if_eq C 547 dL_law_491 (by decide) (fun c => ?_) (fun c => ?_)
    · replace hf := gw_ift hf c
      refine gj_iconst (v := 0) C dL_law_547 (by decide) ?_
      exact gj_pick [0, 1, 2, 3, 4, 5, 7] _ rfl (jl_548 C hX hbl hbA hz τ μ o v7 (0 : Int32) z hf (by omega) (by omega) (fun s c2 s2 hc hs he => k s c2 s2 (by omega) (by omega) he))
    · replace hf := gw_iff hf c
      refine gj_aload_n C 1 dL_law_494 rfl ?_
      refine gj_aload_n C 2 dL_law_495 rfl ?_
      refine gj_aload_n C 3 dL_law_496 rfl ?_
      refine gj_aload C 5 dL_law_497 rfl ?_
      replace hf := gw_bnd hf
      obtain ⟨r3, hr3, hf⟩ := hf
      refine gj_cSi (As := [.ref (gw_a Γ 0), .ref (gw_a Γ 132), .ref (gw_a Γ 133), .ref (gw_a Γ 134)]) (rest := []) C cb_L_254 (s_L_areStudents (gw_l K) Γ τ μ o r3 hr3) rfl (Nat.le_of_ble_eq_true rfl) dL_law_499 (gw_rmo rfl (by show _ ≤ 688196; omega) (by show _ ≤ 7036880; omega)) rfl ?_
      refine gj_if_eq C 547 dL_law_502 (by decide) (fun c => ?_) (fun c => ?_)
      · replace hf := gw_ift hf c
        refine gj_iconst (v := 0) C dL_law_547 (by decide) ?_
        exact gj_pick [0, 1, 2, 3, 4, 5, 7] _ rfl (jl_548 C hX hbl hbA hz τ μ o v7 (0 : Int32) z hf (by omega) (by omega) (fun s c2 s2 hc hs he => k s c2 s2 (by omega) (by omega) he))
      · replace hf := gw_iff hf c
        refine gj_aload C 5 dL_law_505 rfl ?_
        refine gj_iconst (v := 1) C dL_law_507 (by decide) ?_
        obtain ⟨g4, hf⟩ := gw_ifs hf
        refine gj_bld (j := 2) C (by decide) (gw_ibv g4) dL_law_508 ?_
        refine gj_if_eq C 543 dL_law_509 (by decide) (fun c => ?_) (fun c => ?_)
        · replace hf := gw_ift hf c
          refine gj_iconst (v := 1) C dL_law_543 (by decide) ?_
          refine gj_goto C 548 dL_law_544 (by decide) ?_
          exact gj_pick [0, 1, 2, 3, 4, 5, 7] _ rfl (jl_548 C hX hbl hbA hz τ μ o v7 (1 : Int32) z hf (by omega) (by omega) (fun s c2 s2 hc hs he => k s c2 s2 (by omega) (by omega) he))
        · replace hf := gw_iff hf c
          refine gj_aload_n C 1 dL_law_512 rfl ?_
          refine gj_aload_n C 2 dL_law_513 rfl ?_
          refine gj_aload_n C 3 dL_law_514 rfl ?_
          refine gj_aload C 5 dL_law_515 rfl ?_
          refine gj_iload C 8 dL_law_517 rfl ?_
          refine gj_bipush (v := 7) C dL_law_519 (by decide) ?_
          refine gj_idiv C dL_law_521 (by decide) ?_
          refine gj_aload C 5 dL_law_522 rfl ?_
          refine gj_iconst (v := 1) C dL_law_524 (by decide) ?_
          obtain ⟨g5, hf⟩ := gw_ifs hf
          refine gj_bld (j := 2) C (by decide) (gw_ibv g5) dL_law_525 ?_
          obtain ⟨g6, hf⟩ := gw_ifn hf
          refine gj_irem C dL_law_526 g6 ?_
          refine gj_iload C 8 dL_law_527 rfl ?_
          refine gj_bipush (v := 11) C dL_law_529 (by decide) ?_
          refine gj_idiv C dL_law_531 (by decide) ?_
          refine gj_aload C 5 dL_law_532 rfl ?_
          refine gj_iconst (v := 0) C dL_law_534 (by decide) ?_
          obtain ⟨g7, hf⟩ := gw_ifs hf
          refine gj_bld (j := 2) C (by decide) (gw_ibv g7) dL_law_535 ?_
          obtain ⟨g8, hf⟩ := gw_ifn hf
          refine gj_irem C dL_law_536 g8 ?_
          replace hf := gw_bnd hf
          obtain ⟨r9, hr9, hf⟩ := hf
          refine gj_cSi (As := [.ref (gw_a Γ 0), .ref (gw_a Γ 132), .ref (gw_a Γ 133), .ref (gw_a Γ 134), .int ((v8 / (7 : Int32)) - (v8 / (7 : Int32)) / (μ 2 (1 : Int32).toNatClampNeg) * (μ 2 (1 : Int32).toNatClampNeg)), .int ((v8 / (11 : Int32)) - (v8 / (11 : Int32)) / (μ 2 (0 : Int32).toNatClampNeg) * (μ 2 (0 : Int32).toNatClampNeg))]) (rest := []) C cb_L_258 (s_L_areOf (gw_l K) Γ τ μ o ((v8 / (7 : Int32)) - (v8 / (7 : Int32)) / (μ 2 (1 : Int32).toNatClampNeg) * (μ 2 (1 : Int32).toNatClampNeg)) ((v8 / (11 : Int32)) - (v8 / (11 : Int32)) / (μ 2 (0 : Int32).toNatClampNeg) * (μ 2 (0 : Int32).toNatClampNeg)) r9 hr9) rfl (Nat.le_of_ble_eq_true rfl) dL_law_537 (gw_rmo rfl (by show _ ≤ 688196; omega) (by show _ ≤ 7036880; omega)) rfl ?_
          refine gj_if_eq C 547 dL_law_540 (by decide) (fun c => ?_) (fun c => ?_)
          · replace hf := gw_ift hf c
            refine gj_iconst (v := 0) C dL_law_547 (by decide) ?_
            exact gj_pick [0, 1, 2, 3, 4, 5, 7] _ rfl (jl_548 C hX hbl hbA hz τ μ o v7 (0 : Int32) z hf (by omega) (by omega) (fun s c2 s2 hc hs he => k s c2 s2 (by omega) (by omega) he))
          · replace hf := gw_iff hf c
            refine gj_iconst (v := 1) C dL_law_543 (by decide) ?_
            refine gj_goto C 548 dL_law_544 (by decide) ?_
            exact gj_pick [0, 1, 2, 3, 4, 5, 7] _ rfl (jl_548 C hX hbl hbA hz τ μ o v7 (1 : Int32) z hf (by omega) (by omega) (fun s c2 s2 hc hs he => k s c2 s2 (by omega) (by omega) he))
set_option maxRecDepth 100000 in
set_option maxHeartbeats 8000000 in
theorem jl_141 {K : gw_K} {Γ : gw_G} {cells slots b len : Nat} {xs : Nat → Int32} (C : gw_C K Γ cL_law 14 RL) (hX : va_X b len xs (gw_s K) (gw_s K).heap) (hbl : b < (gw_s K).heap.size) (hbA : ¬ gw_A Γ b) (hz : gw_z Γ = 0) (τ μ : gw_S) (o : Nat → Int64) (v7 : Int32) (v8 : Int32) (z : (gw_S × gw_S × (Nat → Int64) × Int32 × Int32) ⊕ (gw_S × gw_S × (Nat → Int64) × Int32 × Int32)) (hf : j_L_law_141 xs len τ μ o v7 v8 = some z) (hc : cells + 4 ≤ 600000) (hs : slots + 64 ≤ 7000000) (k : ∀ (s : gw_S × gw_S × (Nat → Int64) × Int32 × Int32) (c2 s2 : Nat), c2 ≤ cells + 4 → s2 ≤ slots + 64 → z = .inl s → gw_J K Γ room_1 c2 s2 (gw_W Γ s.1 s.2.1 s.2.2.1) 44 [(0, .ref b), (1, .ref (gw_a Γ 0)), (2, .ref (gw_a Γ 132)), (3, .ref (gw_a Γ 133)), (4, .ref (gw_a Γ 135)), (5, .ref (gw_a Γ 134)), (6, .int s.2.2.2.1), (7, .int s.2.2.2.2)] [])  : gw_J K Γ room_1 cells slots (gw_W Γ τ μ o) 141 [(0, .ref b), (1, .ref (gw_a Γ 0)), (2, .ref (gw_a Γ 132)), (3, .ref (gw_a Γ 133)), (4, .ref (gw_a Γ 135)), (5, .ref (gw_a Γ 134)), (7, .int v7), (8, .int v8)] [] := by
  refine gj_aload_n C 1 dL_law_141 rfl ?_
  refine gj_aload_n C 2 dL_law_142 rfl ?_
  refine gj_aload_n C 3 dL_law_143 rfl ?_
  refine gj_aload C 5 dL_law_144 rfl ?_
  refine gj_iload C 7 dL_law_146 rfl ?_
  refine gj_bipush (v := 82) C dL_law_148 (by decide) ?_
  refine gj_idiv C dL_law_150 (by decide) ?_
  refine gj_iload C 6 dL_law_151 rfl ?_
  refine gj_bipush (v := 10) C dL_law_153 (by decide) ?_
  refine gj_ic_ge C 173 dL_law_155 (by decide) (fun c => ?_) (fun c => ?_)
  · replace hf := gw_ift hf c
    refine gj_iload C 7 dL_law_173 rfl ?_
    refine gj_bipush (v := 41) C dL_law_175 (by decide) ?_
    refine gj_idiv C dL_law_177 (by decide) ?_
    refine gj_iconst (v := 2) C dL_law_178 (by decide) ?_
    refine gj_irem C dL_law_179 (by decide) ?_
    refine gj_if_ne C 187 dL_law_180 (by decide) (fun c => ?_) (fun c => ?_)
    · replace hf := gw_iff hf c
      refine gj_iconst (v := 0) C dL_law_187 (by decide) ?_
      replace hf := gw_bnd hf
      obtain ⟨r1, hr1, hf⟩ := hf
      refine gj_cSi (As := [.ref (gw_a Γ 0), .ref (gw_a Γ 132), .ref (gw_a Γ 133), .ref (gw_a Γ 134), .int (v8 / (82 : Int32)), .int (0 : Int32)]) (rest := []) C cb_L_238 (s_L_adds (gw_l K) Γ τ μ o (v8 / (82 : Int32)) (0 : Int32) r1 hr1) rfl (Nat.le_of_ble_eq_true rfl) dL_law_188 (gw_rmo rfl (by show _ ≤ 688196; omega) (by show _ ≤ 7036880; omega)) rfl ?_
      refine gj_istore C 6 [(6, .int r1.1), (0, .ref b), (1, .ref (gw_a Γ 0)), (2, .ref (gw_a Γ 132)), (3, .ref (gw_a Γ 133)), (4, .ref (gw_a Γ 135)), (5, .ref (gw_a Γ 134)), (7, .int v7), (8, .int v8)] dL_law_191 (by decide) rfl ?_
      refine gj_goto C 476 dL_law_193 (by decide) ?_
      exact gj_pick [1, 2, 3, 4, 5, 6, 0, 7, 8] _ rfl (jl_476 C hX hbl hbA hz r1.2.1 r1.2.2.1 r1.2.2.2 r1.1 v7 v8 z hf (by omega) (by omega) (fun s c2 s2 hc hs he => k s c2 s2 (by omega) (by omega) he))
    · replace hf := gw_ift hf c
      refine gj_iconst (v := 1) C dL_law_183 (by decide) ?_
      refine gj_goto C 188 dL_law_184 (by decide) ?_
      replace hf := gw_bnd hf
      obtain ⟨r10, hr10, hf⟩ := hf
      refine gj_cSi (As := [.ref (gw_a Γ 0), .ref (gw_a Γ 132), .ref (gw_a Γ 133), .ref (gw_a Γ 134), .int (v8 / (82 : Int32)), .int (1 : Int32)]) (rest := []) C cb_L_238 (s_L_adds (gw_l K) Γ τ μ o (v8 / (82 : Int32)) (1 : Int32) r10 hr10) rfl (Nat.le_of_ble_eq_true rfl) dL_law_188 (gw_rmo rfl (by show _ ≤ 688196; omega) (by show _ ≤ 7036880; omega)) rfl ?_
      refine gj_istore C 6 [(6, .int r10.1), (0, .ref b), (1, .ref (gw_a Γ 0)), (2, .ref (gw_a Γ 132)), (3, .ref (gw_a Γ 133)), (4, .ref (gw_a Γ 135)), (5, .ref (gw_a Γ 134)), (7, .int v7), (8, .int v8)] dL_law_191 (by decide) rfl ?_
      refine gj_goto C 476 dL_law_193 (by decide) ?_
      exact gj_pick [1, 2, 3, 4, 5, 6, 0, 7, 8] _ rfl (jl_476 C hX hbl hbA hz r10.2.1 r10.2.2.1 r10.2.2.2 r10.1 v7 v8 z hf (by omega) (by omega) (fun s c2 s2 hc hs he => k s c2 s2 (by omega) (by omega) he))
  · replace hf := gw_iff hf c
    refine gj_iload C 6 dL_law_158 rfl ?_
    refine gj_iconst (v := 2) C dL_law_160 (by decide) ?_
    refine gj_irem C dL_law_161 (by decide) ?_
    refine gj_if_ne C 169 dL_law_162 (by decide) (fun c => ?_) (fun c => ?_)
    · replace hf := gw_iff hf c
      refine gj_iconst (v := 0) C dL_law_169 (by decide) ?_
      refine gj_goto C 188 dL_law_170 (by decide) ?_
      replace hf := gw_bnd hf
      obtain ⟨r11, hr11, hf⟩ := hf
      refine gj_cSi (As := [.ref (gw_a Γ 0), .ref (gw_a Γ 132), .ref (gw_a Γ 133), .ref (gw_a Γ 134), .int (v8 / (82 : Int32)), .int (0 : Int32)]) (rest := []) C cb_L_238 (s_L_adds (gw_l K) Γ τ μ o (v8 / (82 : Int32)) (0 : Int32) r11 hr11) rfl (Nat.le_of_ble_eq_true rfl) dL_law_188 (gw_rmo rfl (by show _ ≤ 688196; omega) (by show _ ≤ 7036880; omega)) rfl ?_
      refine gj_istore C 6 [(6, .int r11.1), (0, .ref b), (1, .ref (gw_a Γ 0)), (2, .ref (gw_a Γ 132)), (3, .ref (gw_a Γ 133)), (4, .ref (gw_a Γ 135)), (5, .ref (gw_a Γ 134)), (7, .int v7), (8, .int v8)] dL_law_191 (by decide) rfl ?_
      refine gj_goto C 476 dL_law_193 (by decide) ?_
      exact gj_pick [1, 2, 3, 4, 5, 6, 0, 7, 8] _ rfl (jl_476 C hX hbl hbA hz r11.2.1 r11.2.2.1 r11.2.2.2 r11.1 v7 v8 z hf (by omega) (by omega) (fun s c2 s2 hc hs he => k s c2 s2 (by omega) (by omega) he))
    · replace hf := gw_ift hf c
      refine gj_iconst (v := 1) C dL_law_165 (by decide) ?_
      refine gj_goto C 188 dL_law_166 (by decide) ?_
      replace hf := gw_bnd hf
      obtain ⟨r12, hr12, hf⟩ := hf
      refine gj_cSi (As := [.ref (gw_a Γ 0), .ref (gw_a Γ 132), .ref (gw_a Γ 133), .ref (gw_a Γ 134), .int (v8 / (82 : Int32)), .int (1 : Int32)]) (rest := []) C cb_L_238 (s_L_adds (gw_l K) Γ τ μ o (v8 / (82 : Int32)) (1 : Int32) r12 hr12) rfl (Nat.le_of_ble_eq_true rfl) dL_law_188 (gw_rmo rfl (by show _ ≤ 688196; omega) (by show _ ≤ 7036880; omega)) rfl ?_
      refine gj_istore C 6 [(6, .int r12.1), (0, .ref b), (1, .ref (gw_a Γ 0)), (2, .ref (gw_a Γ 132)), (3, .ref (gw_a Γ 133)), (4, .ref (gw_a Γ 135)), (5, .ref (gw_a Γ 134)), (7, .int v7), (8, .int v8)] dL_law_191 (by decide) rfl ?_
      refine gj_goto C 476 dL_law_193 (by decide) ?_
      exact gj_pick [1, 2, 3, 4, 5, 6, 0, 7, 8] _ rfl (jl_476 C hX hbl hbA hz r12.2.1 r12.2.2.1 r12.2.2.2 r12.1 v7 v8 z hf (by omega) (by omega) (fun s c2 s2 hc hs he => k s c2 s2 (by omega) (by omega) he))
set_option maxRecDepth 100000 in
set_option maxHeartbeats 4000000 in
theorem l_L_law_1 {K : gw_K} {Γ : gw_G} {cells slots b : Nat} (hc : cells ≤ 600000) (hs : slots ≤ 7000000) (C : gw_C K Γ cL_law 14 RL) (τ : gw_S) (μ : gw_S) (o : Nat → Int64) (v7 : Int32) (v8 : Int32) (v9 : Int32) (v10 : Int32) (v12 : Int32) : ∀ (n : Nat) (v11 : Int32) (v13 : Int32) (T : Int32 × Int32), gw_it (b_L_law_1 τ μ o v7 v8 v9 v10 v12) n (v11, v13) = some T → gw_J K Γ room_1 cells slots (gw_W Γ τ μ o) 424 [(0, .ref b), (1, .ref (gw_a Γ 0)), (2, .ref (gw_a Γ 132)), (3, .ref (gw_a Γ 133)), (4, .ref (gw_a Γ 135)), (5, .ref (gw_a Γ 134)), (7, .int v7), (8, .int v8), (9, .int v9), (10, .int v10), (11, .int T.1), (12, .int v12), (13, .int T.2)] [] → gw_J K Γ room_1 cells slots (gw_W Γ τ μ o) 375 [(0, .ref b), (1, .ref (gw_a Γ 0)), (2, .ref (gw_a Γ 132)), (3, .ref (gw_a Γ 133)), (4, .ref (gw_a Γ 135)), (5, .ref (gw_a Γ 134)), (7, .int v7), (8, .int v8), (9, .int v9), (10, .int v10), (11, .int v11), (12, .int v12), (13, .int v13)] [] := by
  intro n
  induction n with
  | zero => intro v11 v13 T h; cases h
  | succ n ih =>
    intro v11 v13 T h k
    obtain ⟨q, hf, hr⟩ := gw_it_s h
    rw [b_L_law_1] at hf
    refine gj_iload C 12 dL_law_375 rfl ?_
    refine gj_aload C 5 dL_law_377 rfl ?_
    refine gj_iconst (v := 0) C dL_law_379 (by decide) ?_
    obtain ⟨g19, hf⟩ := gw_ifs hf
    refine gj_bld (j := 2) C (by decide) (gw_ibv g19) dL_law_380 ?_
    refine gj_ic_ge C 424 dL_law_381 (by decide) (fun c => ?_) (fun c => ?_)
    · replace hf := gw_ift hf c
      cases hf
      cases gw_ir hr
      exact gj_pick [0, 1, 2, 3, 4, 5, 6, 7, 8, 9, 10, 11, 12] _ rfl k
    · replace hf := gw_iff hf c
      refine gj_iload C 7 dL_law_384 rfl ?_
      refine gj_iconst (v := 5) C dL_law_386 (by decide) ?_
      refine gj_irem C dL_law_387 (by decide) ?_
      refine gj_if_le C 424 dL_law_388 (by decide) (fun c => ?_) (fun c => ?_)
      · replace hf := gw_ift hf c
        cases hf
        cases gw_ir hr
        exact gj_pick [0, 1, 2, 3, 4, 5, 6, 7, 8, 9, 10, 11, 12] _ rfl k
      · replace hf := gw_iff hf c
        refine gj_aload_n C 2 dL_law_391 rfl ?_
        refine gj_aload_n C 3 dL_law_392 rfl ?_
        refine gj_aload C 4 dL_law_393 rfl ?_
        refine gj_iload C 8 dL_law_395 rfl ?_
        refine gj_iload C 9 dL_law_397 rfl ?_
        refine gj_iload C 10 dL_law_399 rfl ?_
        replace hf := gw_bnd hf
        obtain ⟨r20, hr20, hf⟩ := hf
        refine gj_cSi (As := [.ref (gw_a Γ 132), .ref (gw_a Γ 133), .ref (gw_a Γ 135), .int v9, .int v10, .int v11]) (rest := []) C cb_L_242 (s_L_isOf (gw_l K) Γ τ μ o v9 v10 v11 r20 hr20) rfl (Nat.le_of_ble_eq_true rfl) dL_law_401 (gw_rmo rfl (by show _ ≤ 688196; omega) (by show _ ≤ 7036880; omega)) rfl ?_
        refine gj_if_ne C 424 dL_law_404 (by decide) (fun c => ?_) (fun c => ?_)
        · replace hf := gw_iff hf c
          cases hf
          cases gw_ir hr
          exact gj_pick [0, 1, 2, 3, 4, 5, 6, 7, 8, 9, 10, 11, 12] _ rfl k
        · replace hf := gw_ift hf c
          refine gj_iload C 10 dL_law_407 rfl ?_
          refine gj_iconst (v := 1) C dL_law_409 (by decide) ?_
          refine gj_iadd C dL_law_410 ?_
          refine gj_aload C 5 dL_law_411 rfl ?_
          refine gj_iconst (v := 0) C dL_law_413 (by decide) ?_
          obtain ⟨g21, hf⟩ := gw_ifs hf
          refine gj_bld (j := 2) C (by decide) (gw_ibv g21) dL_law_414 ?_
          obtain ⟨g22, hf⟩ := gw_ifn hf
          refine gj_irem C dL_law_415 g22 ?_
          refine gj_istore C 11 [(11, .int ((v11 + (1 : Int32)) - (v11 + (1 : Int32)) / (μ 2 (0 : Int32).toNatClampNeg) * (μ 2 (0 : Int32).toNatClampNeg))), (0, .ref b), (1, .ref (gw_a Γ 0)), (2, .ref (gw_a Γ 132)), (3, .ref (gw_a Γ 133)), (4, .ref (gw_a Γ 135)), (5, .ref (gw_a Γ 134)), (7, .int v7), (8, .int v8), (9, .int v9), (10, .int v10), (12, .int v12), (13, .int v13)] dL_law_416 (by decide) rfl ?_
          refine gj_iinc C 13 12 (v13 + 1) [(13, .int (v13 + 1)), (11, .int ((v11 + (1 : Int32)) - (v11 + (1 : Int32)) / (μ 2 (0 : Int32).toNatClampNeg) * (μ 2 (0 : Int32).toNatClampNeg))), (0, .ref b), (1, .ref (gw_a Γ 0)), (2, .ref (gw_a Γ 132)), (3, .ref (gw_a Γ 133)), (4, .ref (gw_a Γ 135)), (5, .ref (gw_a Γ 134)), (7, .int v7), (8, .int v8), (9, .int v9), (10, .int v10), (12, .int v12)] dL_law_418 rfl rfl (by decide) rfl ?_
          refine gj_goto C 375 dL_law_421 (by decide) ?_
          cases hf
          replace hr := gw_il hr
          exact gj_pick [2, 3, 4, 5, 6, 7, 8, 9, 10, 11, 1, 12, 0] _ rfl (ih _ _ _ hr k)
set_option maxRecDepth 100000 in
set_option maxHeartbeats 8000000 in
theorem jl_424 {K : gw_K} {Γ : gw_G} {cells slots b len : Nat} {xs : Nat → Int32} (C : gw_C K Γ cL_law 14 RL) (hX : va_X b len xs (gw_s K) (gw_s K).heap) (hbl : b < (gw_s K).heap.size) (hbA : ¬ gw_A Γ b) (hz : gw_z Γ = 0) (τ μ : gw_S) (o : Nat → Int64) (v7 : Int32) (v8 : Int32) (v9 : Int32) (v10 : Int32) (v11 : Int32) (v12 : Int32) (z : (gw_S × gw_S × (Nat → Int64) × Int32 × Int32) ⊕ (gw_S × gw_S × (Nat → Int64) × Int32 × Int32)) (hf : j_L_law_424 xs len τ μ o v7 v8 v9 v10 v11 v12 = some z) (hc : cells + 12 ≤ 600000) (hs : slots + 100 ≤ 7000000) (k : ∀ (s : gw_S × gw_S × (Nat → Int64) × Int32 × Int32) (c2 s2 : Nat), c2 ≤ cells + 12 → s2 ≤ slots + 100 → z = .inl s → gw_J K Γ room_1 c2 s2 (gw_W Γ s.1 s.2.1 s.2.2.1) 44 [(0, .ref b), (1, .ref (gw_a Γ 0)), (2, .ref (gw_a Γ 132)), (3, .ref (gw_a Γ 133)), (4, .ref (gw_a Γ 135)), (5, .ref (gw_a Γ 134)), (6, .int s.2.2.2.1), (7, .int s.2.2.2.2)] [])  : gw_J K Γ room_1 cells slots (gw_W Γ τ μ o) 424 [(0, .ref b), (1, .ref (gw_a Γ 0)), (2, .ref (gw_a Γ 132)), (3, .ref (gw_a Γ 133)), (4, .ref (gw_a Γ 135)), (5, .ref (gw_a Γ 134)), (7, .int v7), (8, .int v8), (9, .int v9), (10, .int v10), (11, .int v11), (12, .int v12)] [] := by
  refine gj_aload_n C 2 dL_law_424 rfl ?_
  refine gj_aload_n C 3 dL_law_425 rfl ?_
  refine gj_aload C 4 dL_law_426 rfl ?_
  refine gj_aload C 5 dL_law_428 rfl ?_
  refine gj_iload C 8 dL_law_430 rfl ?_
  refine gj_iload C 9 dL_law_432 rfl ?_
  refine gj_iload C 10 dL_law_434 rfl ?_
  refine gj_iload C 11 dL_law_436 rfl ?_
  replace hf := gw_bnd hf
  obtain ⟨r24, hr24, hf⟩ := hf
  refine gj_cSi (As := [.ref (gw_a Γ 132), .ref (gw_a Γ 133), .ref (gw_a Γ 135), .ref (gw_a Γ 134), .int v9, .int v10, .int v11, .int v12]) (rest := []) C cb_L_246 (s_L_books (gw_l K) Γ hz τ μ o v9 v10 v11 v12 r24 hr24) rfl (Nat.le_of_ble_eq_true rfl) dL_law_438 (gw_rmo rfl (by show _ ≤ 688196; omega) (by show _ ≤ 7036880; omega)) rfl ?_
  refine gj_istore C 13 [(13, .int r24.1), (0, .ref b), (1, .ref (gw_a Γ 0)), (2, .ref (gw_a Γ 132)), (3, .ref (gw_a Γ 133)), (4, .ref (gw_a Γ 135)), (5, .ref (gw_a Γ 134)), (7, .int v7), (8, .int v8), (9, .int v9), (10, .int v10), (11, .int v11), (12, .int v12)] dL_law_441 (by decide) rfl ?_
  refine gj_aload_n C 3 dL_law_443 rfl ?_
  refine gj_aload_n C 4 dL_law_444 rfl ?_
  refine gj_aload C 5 dL_law_445 rfl ?_
  refine gj_aload C 6 dL_law_447 rfl ?_
  replace hf := gw_bnd hf
  obtain ⟨r25, hr25, hf⟩ := hf
  refine gj_cSv (As := [.ref (gw_a Γ 132), .ref (gw_a Γ 133), .ref (gw_a Γ 135), .ref (gw_a Γ 134)]) (rest := []) C cb_L_64 (s_L_makes (gw_l K) Γ τ r24.2.1 r24.2.2 r25 hr25) rfl (Nat.le_of_ble_eq_true rfl) dL_law_449 (gw_rmo rfl (by show _ ≤ 688196; omega) (by show _ ≤ 7036880; omega)) rfl ?_
  refine gj_aload_n C 2 dL_law_452 rfl ?_
  refine gj_iload C 9 dL_law_453 rfl ?_
  refine gj_iload C 10 dL_law_455 rfl ?_
  refine gj_iload C 11 dL_law_457 rfl ?_
  refine gj_iload C 12 dL_law_459 rfl ?_
  replace hf := gw_bnd hf
  obtain ⟨r26, hr26, hf⟩ := hf
  refine gj_cW (As := [.ref (gw_a Γ 0), .int v9, .int v10, .int v11, .int v12]) (rest := []) C cw_L_does_ (s_L_does (gw_l K) Γ τ r25.1 r25.2 v9 v10 v11 v12 r26 hr26) rfl (Nat.le_of_ble_eq_true rfl) dL_law_461 (gw_rmo rfl (by show _ ≤ 688196; omega) (by show _ ≤ 7036880; omega)) rfl ?_
  refine gj_iload C 0 dL_law_464 rfl ?_
  refine gj_ic_ne C 473 dL_law_466 (by decide) (fun c => ?_) (fun c => ?_)
  · replace hf := gw_iff hf c
    refine gj_iconst (v := 0) C dL_law_473 (by decide) ?_
    refine gj_istore C 6 [(6, .int (0 : Int32)), (13, .int r24.1), (0, .ref b), (1, .ref (gw_a Γ 0)), (2, .ref (gw_a Γ 132)), (3, .ref (gw_a Γ 133)), (4, .ref (gw_a Γ 135)), (5, .ref (gw_a Γ 134)), (7, .int v7), (8, .int v8), (9, .int v9), (10, .int v10), (11, .int v11), (12, .int v12)] dL_law_474 (by decide) rfl ?_
    exact gj_pick [2, 3, 4, 5, 6, 7, 0, 8, 9] _ rfl (jl_476 C hX hbl hbA hz r26.2 r25.1 r25.2 (0 : Int32) v7 v8 z hf (by omega) (by omega) (fun s c2 s2 hc hs he => k s c2 s2 (by omega) (by omega) he))
  · replace hf := gw_ift hf c
    refine gj_iconst (v := 1) C dL_law_469 (by decide) ?_
    refine gj_goto C 474 dL_law_470 (by decide) ?_
    refine gj_istore C 6 [(6, .int (1 : Int32)), (13, .int r24.1), (0, .ref b), (1, .ref (gw_a Γ 0)), (2, .ref (gw_a Γ 132)), (3, .ref (gw_a Γ 133)), (4, .ref (gw_a Γ 135)), (5, .ref (gw_a Γ 134)), (7, .int v7), (8, .int v8), (9, .int v9), (10, .int v10), (11, .int v11), (12, .int v12)] dL_law_474 (by decide) rfl ?_
    exact gj_pick [2, 3, 4, 5, 6, 7, 0, 8, 9] _ rfl (jl_476 C hX hbl hbA hz r26.2 r25.1 r25.2 (1 : Int32) v7 v8 z hf (by omega) (by omega) (fun s c2 s2 hc hs he => k s c2 s2 (by omega) (by omega) he))
set_option maxRecDepth 100000 in
set_option maxHeartbeats 8000000 in
theorem jl_262 {K : gw_K} {Γ : gw_G} {cells slots b len : Nat} {xs : Nat → Int32} (C : gw_C K Γ cL_law 14 RL) (hX : va_X b len xs (gw_s K) (gw_s K).heap) (hbl : b < (gw_s K).heap.size) (hbA : ¬ gw_A Γ b) (hz : gw_z Γ = 0) (τ μ : gw_S) (o : Nat → Int64) (v7 : Int32) (v8 : Int32) (w0 : Int32) (z : (gw_S × gw_S × (Nat → Int64) × Int32 × Int32) ⊕ (gw_S × gw_S × (Nat → Int64) × Int32 × Int32)) (hf : j_L_law_262 xs len τ μ o v7 v8 w0 = some z) (hc : cells + 12 ≤ 600000) (hs : slots + 100 ≤ 7000000) (k : ∀ (s : gw_S × gw_S × (Nat → Int64) × Int32 × Int32) (c2 s2 : Nat), c2 ≤ cells + 12 → s2 ≤ slots + 100 → z = .inl s → gw_J K Γ room_1 c2 s2 (gw_W Γ s.1 s.2.1 s.2.2.1) 44 [(0, .ref b), (1, .ref (gw_a Γ 0)), (2, .ref (gw_a Γ 132)), (3, .ref (gw_a Γ 133)), (4, .ref (gw_a Γ 135)), (5, .ref (gw_a Γ 134)), (6, .int s.2.2.2.1), (7, .int s.2.2.2.2)] [])  : gw_J K Γ room_1 cells slots (gw_W Γ τ μ o) 262 [(0, .ref b), (1, .ref (gw_a Γ 0)), (2, .ref (gw_a Γ 132)), (3, .ref (gw_a Γ 133)), (4, .ref (gw_a Γ 135)), (5, .ref (gw_a Γ 134)), (7, .int v7), (8, .int v8)] [.int w0] := by
  refine gj_istore C 9 [(9, .int w0), (0, .ref b), (1, .ref (gw_a Γ 0)), (2, .ref (gw_a Γ 132)), (3, .ref (gw_a Γ 133)), (4, .ref (gw_a Γ 135)), (5, .ref (gw_a Γ 134)), (7, .int v7), (8, .int v8)] dL_law_262 (by decide) rfl ?_
  refine gj_iload C 8 dL_law_264 rfl ?_
  refine gj_bipush (v := 41) C dL_law_266 (by decide) ?_
  refine gj_idiv C dL_law_268 (by decide) ?_
  refine gj_aload C 6 dL_law_269 rfl ?_
  refine gj_iconst (v := 1) C dL_law_271 (by decide) ?_
  obtain ⟨g13, hf⟩ := gw_ifs hf
  refine gj_bld (j := 2) C (by decide) (gw_ibv g13) dL_law_272 ?_
  obtain ⟨g14, hf⟩ := gw_ifn hf
  refine gj_irem C dL_law_273 g14 ?_
  refine gj_istore C 10 [(10, .int ((v8 / (41 : Int32)) - (v8 / (41 : Int32)) / (μ 2 (1 : Int32).toNatClampNeg) * (μ 2 (1 : Int32).toNatClampNeg))), (9, .int w0), (0, .ref b), (1, .ref (gw_a Γ 0)), (2, .ref (gw_a Γ 132)), (3, .ref (gw_a Γ 133)), (4, .ref (gw_a Γ 135)), (5, .ref (gw_a Γ 134)), (7, .int v7), (8, .int v8)] dL_law_274 (by decide) rfl ?_
  refine gj_iload C 9 dL_law_276 rfl ?_
  refine gj_sipush (v := 328) C dL_law_278 (by decide) ?_
  refine gj_idiv C dL_law_281 (by decide) ?_
  refine gj_aload C 7 dL_law_282 rfl ?_
  refine gj_iconst (v := 0) C dL_law_284 (by decide) ?_
  obtain ⟨g15, hf⟩ := gw_ifs hf
  refine gj_bld (j := 2) C (by decide) (gw_ibv g15) dL_law_285 ?_
  obtain ⟨g16, hf⟩ := gw_ifn hf
  refine gj_irem C dL_law_286 g16 ?_
  refine gj_istore C 11 [(11, .int ((v8 / (328 : Int32)) - (v8 / (328 : Int32)) / (μ 2 (0 : Int32).toNatClampNeg) * (μ 2 (0 : Int32).toNatClampNeg))), (10, .int ((v8 / (41 : Int32)) - (v8 / (41 : Int32)) / (μ 2 (1 : Int32).toNatClampNeg) * (μ 2 (1 : Int32).toNatClampNeg))), (9, .int w0), (0, .ref b), (1, .ref (gw_a Γ 0)), (2, .ref (gw_a Γ 132)), (3, .ref (gw_a Γ 133)), (4, .ref (gw_a Γ 135)), (5, .ref (gw_a Γ 134)), (7, .int v7), (8, .int v8)] dL_law_287 (by decide) rfl ?_
  refine gj_iload C 10 dL_law_289 rfl ?_
  refine gj_sipush (v := 2624) C dL_law_291 (by decide) ?_
  refine gj_idiv C dL_law_294 (by decide) ?_
  refine gj_aload C 8 dL_law_295 rfl ?_
  refine gj_iconst (v := 0) C dL_law_297 (by decide) ?_
  obtain ⟨g17, hf⟩ := gw_ifs hf
  refine gj_bld (j := 2) C (by decide) (gw_ibv g17) dL_law_298 ?_
  obtain ⟨g18, hf⟩ := gw_ifn hf
  refine gj_irem C dL_law_299 g18 ?_
  refine gj_istore C 12 [(12, .int ((v8 / (2624 : Int32)) - (v8 / (2624 : Int32)) / (μ 2 (0 : Int32).toNatClampNeg) * (μ 2 (0 : Int32).toNatClampNeg))), (11, .int ((v8 / (328 : Int32)) - (v8 / (328 : Int32)) / (μ 2 (0 : Int32).toNatClampNeg) * (μ 2 (0 : Int32).toNatClampNeg))), (10, .int ((v8 / (41 : Int32)) - (v8 / (41 : Int32)) / (μ 2 (1 : Int32).toNatClampNeg) * (μ 2 (1 : Int32).toNatClampNeg))), (9, .int w0), (0, .ref b), (1, .ref (gw_a Γ 0)), (2, .ref (gw_a Γ 132)), (3, .ref (gw_a Γ 133)), (4, .ref (gw_a Γ 135)), (5, .ref (gw_a Γ 134)), (7, .int v7), (8, .int v8)] dL_law_300 (by decide) rfl ?_
  refine gj_iload C 3 dL_law_302 rfl ?_
  refine gj_iconst (v := 2) C dL_law_304 (by decide) ?_
  refine gj_ic_ge C 336 dL_law_305 (by decide) (fun c => ?_) (fun c => ?_)
  · replace hf := gw_ift hf c
    refine gj_iload C 3 dL_law_336 rfl ?_
    refine gj_bipush (v := 10) C dL_law_338 (by decide) ?_
    refine gj_ic_ne C 358 dL_law_340 (by decide) (fun c => ?_) (fun c => ?_)
    · replace hf := gw_iff hf c
      refine gj_iload C 3 dL_law_358 rfl ?_
      refine gj_bipush (v := 11) C dL_law_360 (by decide) ?_
      refine gj_ic_ne C 372 dL_law_362 (by decide) (fun c => ?_) (fun c => ?_)
      · replace hf := gw_iff hf c
        refine gj_iconst (v := 0) C dL_law_372 (by decide) ?_
        refine gj_istore C 13 [(13, .int (0 : Int32)), (12, .int ((v8 / (2624 : Int32)) - (v8 / (2624 : Int32)) / (μ 2 (0 : Int32).toNatClampNeg) * (μ 2 (0 : Int32).toNatClampNeg))), (11, .int ((v8 / (328 : Int32)) - (v8 / (328 : Int32)) / (μ 2 (0 : Int32).toNatClampNeg) * (μ 2 (0 : Int32).toNatClampNeg))), (10, .int ((v8 / (41 : Int32)) - (v8 / (41 : Int32)) / (μ 2 (1 : Int32).toNatClampNeg) * (μ 2 (1 : Int32).toNatClampNeg))), (9, .int w0), (0, .ref b), (1, .ref (gw_a Γ 0)), (2, .ref (gw_a Γ 132)), (3, .ref (gw_a Γ 133)), (4, .ref (gw_a Γ 135)), (5, .ref (gw_a Γ 134)), (7, .int v7), (8, .int v8)] dL_law_373 (by decide) rfl ?_
        replace hf := gw_bnd hf
        obtain ⟨t23, ht23, hf⟩ := hf
        refine gj_pick [5, 6, 7, 8, 9, 10, 11, 12, 4, 3, 2, 1, 0] _ rfl (l_L_law_1 (by omega) (by omega) C τ μ o v7 v8 w0 ((v8 / (41 : Int32)) - (v8 / (41 : Int32)) / (μ 2 (1 : Int32).toNatClampNeg) * (μ 2 (1 : Int32).toNatClampNeg)) ((v8 / (2624 : Int32)) - (v8 / (2624 : Int32)) / (μ 2 (0 : Int32).toNatClampNeg) * (μ 2 (0 : Int32).toNatClampNeg)) _ _ _ t23 ht23 ?_)
        exact gj_pick [0, 1, 2, 3, 4, 5, 6, 7, 8, 9, 10, 11] _ rfl (jl_424 C hX hbl hbA hz τ μ o v7 v8 w0 ((v8 / (41 : Int32)) - (v8 / (41 : Int32)) / (μ 2 (1 : Int32).toNatClampNeg) * (μ 2 (1 : Int32).toNatClampNeg)) t23.1 ((v8 / (2624 : Int32)) - (v8 / (2624 : Int32)) / (μ 2 (0 : Int32).toNatClampNeg) * (μ 2 (0 : Int32).toNatClampNeg)) z hf (by omega) (by omega) (fun s c2 s2 hc hs he => k s c2 s2 (by omega) (by omega) he))
      · replace hf := gw_ift hf c
        refine gj_iload C 11 dL_law_365 rfl ?_
        refine gj_istore C 10 [(10, .int v8), (12, .int ((v8 / (2624 : Int32)) - (v8 / (2624 : Int32)) / (μ 2 (0 : Int32).toNatClampNeg) * (μ 2 (0 : Int32).toNatClampNeg))), (11, .int ((v8 / (328 : Int32)) - (v8 / (328 : Int32)) / (μ 2 (0 : Int32).toNatClampNeg) * (μ 2 (0 : Int32).toNatClampNeg))), (9, .int w0), (0, .ref b), (1, .ref (gw_a Γ 0)), (2, .ref (gw_a Γ 132)), (3, .ref (gw_a Γ 133)), (4, .ref (gw_a Γ 135)), (5, .ref (gw_a Γ 134)), (7, .int v7), (8, .int v8)] dL_law_367 (by decide) rfl ?_
        refine gj_goto C 424 dL_law_369 (by decide) ?_
        exact gj_pick [4, 5, 6, 7, 8, 9, 10, 11, 3, 0, 2, 1] _ rfl (jl_424 C hX hbl hbA hz τ μ o v7 v8 w0 v8 ((v8 / (328 : Int32)) - (v8 / (328 : Int32)) / (μ 2 (0 : Int32).toNatClampNeg) * (μ 2 (0 : Int32).toNatClampNeg)) ((v8 / (2624 : Int32)) - (v8 / (2624 : Int32)) / (μ 2 (0 : Int32).toNatClampNeg) * (μ 2 (0 : Int32).toNatClampNeg)) z hf (by omega) (by omega) (fun s c2 s2 hc hs he => k s c2 s2 (by omega) (by omega) he))
    · replace hf := gw_ift hf c
      refine gj_iconst (v := 1) C dL_law_343 (by decide) ?_
      refine gj_iload C 11 dL_law_344 rfl ?_
      refine gj_bipush (v := 41) C dL_law_346 (by decide) ?_
      refine gj_idiv C dL_law_348 (by decide) ?_
      refine gj_bipush (v := 7) C dL_law_349 (by decide) ?_
      refine gj_irem C dL_law_351 (by decide) ?_
      refine gj_iadd C dL_law_352 ?_
      refine gj_istore C 10 [(10, .int ((1 : Int32) + ((v8 / (41 : Int32)) - (v8 / (41 : Int32)) / (7 : Int32) * (7 : Int32)))), (12, .int ((v8 / (2624 : Int32)) - (v8 / (2624 : Int32)) / (μ 2 (0 : Int32).toNatClampNeg) * (μ 2 (0 : Int32).toNatClampNeg))), (11, .int ((v8 / (328 : Int32)) - (v8 / (328 : Int32)) / (μ 2 (0 : Int32).toNatClampNeg) * (μ 2 (0 : Int32).toNatClampNeg))), (9, .int w0), (0, .ref b), (1, .ref (gw_a Γ 0)), (2, .ref (gw_a Γ 132)), (3, .ref (gw_a Γ 133)), (4, .ref (gw_a Γ 135)), (5, .ref (gw_a Γ 134)), (7, .int v7), (8, .int v8)] dL_law_353 (by decide) rfl ?_
      refine gj_goto C 424 dL_law_355 (by decide) ?_
      exact gj_pick [4, 5, 6, 7, 8, 9, 10, 11, 3, 0, 2, 1] _ rfl (jl_424 C hX hbl hbA hz τ μ o v7 v8 w0 ((1 : Int32) + ((v8 / (41 : Int32)) - (v8 / (41 : Int32)) / (7 : Int32) * (7 : Int32))) ((v8 / (328 : Int32)) - (v8 / (328 : Int32)) / (μ 2 (0 : Int32).toNatClampNeg) * (μ 2 (0 : Int32).toNatClampNeg)) ((v8 / (2624 : Int32)) - (v8 / (2624 : Int32)) / (μ 2 (0 : Int32).toNatClampNeg) * (μ 2 (0 : Int32).toNatClampNeg)) z hf (by omega) (by omega) (fun s c2 s2 hc hs he => k s c2 s2 (by omega) (by omega) he))
  · replace hf := gw_iff hf c
    refine gj_iload C 0 dL_law_308 rfl ?_
    refine gj_istore C 10 [(10, .int ((v8 / (2624 : Int32)) - (v8 / (2624 : Int32)) / (μ 2 (0 : Int32).toNatClampNeg) * (μ 2 (0 : Int32).toNatClampNeg))), (12, .int ((v8 / (2624 : Int32)) - (v8 / (2624 : Int32)) / (μ 2 (0 : Int32).toNatClampNeg) * (μ 2 (0 : Int32).toNatClampNeg))), (11, .int ((v8 / (328 : Int32)) - (v8 / (328 : Int32)) / (μ 2 (0 : Int32).toNatClampNeg) * (μ 2 (0 : Int32).toNatClampNeg))), (9, .int w0), (0, .ref b), (1, .ref (gw_a Γ 0)), (2, .ref (gw_a Γ 132)), (3, .ref (gw_a Γ 133)), (4, .ref (gw_a Γ 135)), (5, .ref (gw_a Γ 134)), (7, .int v7), (8, .int v8)] dL_law_310 (by decide) rfl ?_
    refine gj_iload C 3 dL_law_312 rfl ?_
    refine gj_if_ne C 329 dL_law_314 (by decide) (fun c => ?_) (fun c => ?_)
    · replace hf := gw_iff hf c
      refine gj_iload C 2 dL_law_329 rfl ?_
      refine gj_istore C 11 [(11, .int ((v8 / (328 : Int32)) - (v8 / (328 : Int32)) / (μ 2 (0 : Int32).toNatClampNeg) * (μ 2 (0 : Int32).toNatClampNeg))), (10, .int ((v8 / (2624 : Int32)) - (v8 / (2624 : Int32)) / (μ 2 (0 : Int32).toNatClampNeg) * (μ 2 (0 : Int32).toNatClampNeg))), (12, .int ((v8 / (2624 : Int32)) - (v8 / (2624 : Int32)) / (μ 2 (0 : Int32).toNatClampNeg) * (μ 2 (0 : Int32).toNatClampNeg))), (9, .int w0), (0, .ref b), (1, .ref (gw_a Γ 0)), (2, .ref (gw_a Γ 132)), (3, .ref (gw_a Γ 133)), (4, .ref (gw_a Γ 135)), (5, .ref (gw_a Γ 134)), (7, .int v7), (8, .int v8)] dL_law_331 (by decide) rfl ?_
      refine gj_goto C 424 dL_law_333 (by decide) ?_
      exact gj_pick [4, 5, 6, 7, 8, 9, 10, 11, 3, 1, 0, 2] _ rfl (jl_424 C hX hbl hbA hz τ μ o v7 v8 w0 ((v8 / (2624 : Int32)) - (v8 / (2624 : Int32)) / (μ 2 (0 : Int32).toNatClampNeg) * (μ 2 (0 : Int32).toNatClampNeg)) ((v8 / (328 : Int32)) - (v8 / (328 : Int32)) / (μ 2 (0 : Int32).toNatClampNeg) * (μ 2 (0 : Int32).toNatClampNeg)) ((v8 / (2624 : Int32)) - (v8 / (2624 : Int32)) / (μ 2 (0 : Int32).toNatClampNeg) * (μ 2 (0 : Int32).toNatClampNeg)) z hf (by omega) (by omega) (fun s c2 s2 hc hs he => k s c2 s2 (by omega) (by omega) he))
    · replace hf := gw_ift hf c
      refine gj_iload C 11 dL_law_317 rfl ?_
      refine gj_sipush (v := 328) C dL_law_319 (by decide) ?_
      refine gj_idiv C dL_law_322 (by decide) ?_
      refine gj_bipush (v := 17) C dL_law_323 (by decide) ?_
      refine gj_irem C dL_law_325 (by decide) ?_
      refine gj_goto C 331 dL_law_326 (by decide) ?_
      refine gj_istore C 11 [(11, .int ((v8 / (328 : Int32)) - (v8 / (328 : Int32)) / (17 : Int32) * (17 : Int32))), (10, .int ((v8 / (2624 : Int32)) - (v8 / (2624 : Int32)) / (μ 2 (0 : Int32).toNatClampNeg) * (μ 2 (0 : Int32).toNatClampNeg))), (12, .int ((v8 / (2624 : Int32)) - (v8 / (2624 : Int32)) / (μ 2 (0 : Int32).toNatClampNeg) * (μ 2 (0 : Int32).toNatClampNeg))), (9, .int w0), (0, .ref b), (1, .ref (gw_a Γ 0)), (2, .ref (gw_a Γ 132)), (3, .ref (gw_a Γ 133)), (4, .ref (gw_a Γ 135)), (5, .ref (gw_a Γ 134)), (7, .int v7), (8, .int v8)] dL_law_331 (by decide) rfl ?_
      refine gj_goto C 424 dL_law_333 (by decide) ?_
      exact gj_pick [4, 5, 6, 7, 8, 9, 10, 11, 3, 1, 0, 2] _ rfl (jl_424 C hX hbl hbA hz τ μ o v7 v8 w0 ((v8 / (2624 : Int32)) - (v8 / (2624 : Int32)) / (μ 2 (0 : Int32).toNatClampNeg) * (μ 2 (0 : Int32).toNatClampNeg)) ((v8 / (328 : Int32)) - (v8 / (328 : Int32)) / (17 : Int32) * (17 : Int32)) ((v8 / (2624 : Int32)) - (v8 / (2624 : Int32)) / (μ 2 (0 : Int32).toNatClampNeg) * (μ 2 (0 : Int32).toNatClampNeg)) z hf (by omega) (by omega) (fun s c2 s2 hc hs he => k s c2 s2 (by omega) (by omega) he))
set_option maxRecDepth 100000 in
set_option maxHeartbeats 8000000 in
theorem jl_196 {K : gw_K} {Γ : gw_G} {cells slots b len : Nat} {xs : Nat → Int32} (C : gw_C K Γ cL_law 14 RL) (hX : va_X b len xs (gw_s K) (gw_s K).heap) (hbl : b < (gw_s K).heap.size) (hbA : ¬ gw_A Γ b) (hz : gw_z Γ = 0) (τ μ : gw_S) (o : Nat → Int64) (v7 : Int32) (v8 : Int32) (z : (gw_S × gw_S × (Nat → Int64) × Int32 × Int32) ⊕ (gw_S × gw_S × (Nat → Int64) × Int32 × Int32)) (hf : j_L_law_196 xs len τ μ o v7 v8 = some z) (hc : cells + 12 ≤ 600000) (hs : slots + 100 ≤ 7000000) (k : ∀ (s : gw_S × gw_S × (Nat → Int64) × Int32 × Int32) (c2 s2 : Nat), c2 ≤ cells + 12 → s2 ≤ slots + 100 → z = .inl s → gw_J K Γ room_1 c2 s2 (gw_W Γ s.1 s.2.1 s.2.2.1) 44 [(0, .ref b), (1, .ref (gw_a Γ 0)), (2, .ref (gw_a Γ 132)), (3, .ref (gw_a Γ 133)), (4, .ref (gw_a Γ 135)), (5, .ref (gw_a Γ 134)), (6, .int s.2.2.2.1), (7, .int s.2.2.2.2)] [])  : gw_J K Γ room_1 cells slots (gw_W Γ τ μ o) 196 [(0, .ref b), (1, .ref (gw_a Γ 0)), (2, .ref (gw_a Γ 132)), (3, .ref (gw_a Γ 133)), (4, .ref (gw_a Γ 135)), (5, .ref (gw_a Γ 134)), (7, .int v7), (8, .int v8)] [] := by
  refine gj_iload C 7 dL_law_196 rfl ?_
  refine gj_bipush (v := 41) C dL_law_198 (by decide) ?_
  refine gj_irem C dL_law_200 (by decide) ?_
  refine gj_bipush (v := 6) C dL_law_201 (by decide) ?_
  refine gj_ic_ge C 210 dL_law_203 (by decide) (fun c => ?_) (fun c => ?_)
  · replace hf := gw_ift hf c
    refine gj_iload C 7 dL_law_210 rfl ?_
    refine gj_bipush (v := 41) C dL_law_212 (by decide) ?_
    refine gj_irem C dL_law_214 (by decide) ?_
    refine gj_bipush (v := 12) C dL_law_215 (by decide) ?_
    refine gj_ic_ge C 224 dL_law_217 (by decide) (fun c => ?_) (fun c => ?_)
    · replace hf := gw_ift hf c
      refine gj_iload C 7 dL_law_224 rfl ?_
      refine gj_bipush (v := 41) C dL_law_226 (by decide) ?_
      refine gj_irem C dL_law_228 (by decide) ?_
      refine gj_bipush (v := 15) C dL_law_229 (by decide) ?_
      refine gj_ic_ge C 239 dL_law_231 (by decide) (fun c => ?_) (fun c => ?_)
      · replace hf := gw_ift hf c
        refine gj_iload C 7 dL_law_239 rfl ?_
        refine gj_bipush (v := 41) C dL_law_241 (by decide) ?_
        refine gj_irem C dL_law_243 (by decide) ?_
        refine gj_bipush (v := 37) C dL_law_244 (by decide) ?_
        refine gj_ic_le C 254 dL_law_246 (by decide) (fun c => ?_) (fun c => ?_)
        · replace hf := gw_ift hf c
          refine gj_iload C 7 dL_law_254 rfl ?_
          refine gj_bipush (v := 41) C dL_law_256 (by decide) ?_
          refine gj_irem C dL_law_258 (by decide) ?_
          refine gj_bipush (v := 15) C dL_law_259 (by decide) ?_
          refine gj_irem C dL_law_261 (by decide) ?_
          exact gj_pick [0, 1, 2, 3, 4, 5, 6, 7] _ rfl (jl_262 C hX hbl hbA hz τ μ o v7 v8 ((v8 - v8 / (41 : Int32) * (41 : Int32)) - (v8 - v8 / (41 : Int32) * (41 : Int32)) / (15 : Int32) * (15 : Int32)) z hf (by omega) (by omega) (fun s c2 s2 hc hs he => k s c2 s2 (by omega) (by omega) he))
        · replace hf := gw_iff hf c
          refine gj_bipush (v := 14) C dL_law_249 (by decide) ?_
          refine gj_goto C 262 dL_law_251 (by decide) ?_
          exact gj_pick [0, 1, 2, 3, 4, 5, 6, 7] _ rfl (jl_262 C hX hbl hbA hz τ μ o v7 v8 (14 : Int32) z hf (by omega) (by omega) (fun s c2 s2 hc hs he => k s c2 s2 (by omega) (by omega) he))
      · replace hf := gw_iff hf c
        refine gj_bipush (v := 12) C dL_law_234 (by decide) ?_
        refine gj_goto C 262 dL_law_236 (by decide) ?_
        exact gj_pick [0, 1, 2, 3, 4, 5, 6, 7] _ rfl (jl_262 C hX hbl hbA hz τ μ o v7 v8 (12 : Int32) z hf (by omega) (by omega) (fun s c2 s2 hc hs he => k s c2 s2 (by omega) (by omega) he))
    · replace hf := gw_iff hf c
      refine gj_iconst (v := 5) C dL_law_220 (by decide) ?_
      refine gj_goto C 262 dL_law_221 (by decide) ?_
      exact gj_pick [0, 1, 2, 3, 4, 5, 6, 7] _ rfl (jl_262 C hX hbl hbA hz τ μ o v7 v8 (5 : Int32) z hf (by omega) (by omega) (fun s c2 s2 hc hs he => k s c2 s2 (by omega) (by omega) he))
  · replace hf := gw_iff hf c
    refine gj_iconst (v := 3) C dL_law_206 (by decide) ?_
    refine gj_goto C 262 dL_law_207 (by decide) ?_
    exact gj_pick [0, 1, 2, 3, 4, 5, 6, 7] _ rfl (jl_262 C hX hbl hbA hz τ μ o v7 v8 (3 : Int32) z hf (by omega) (by omega) (fun s c2 s2 hc hs he => k s c2 s2 (by omega) (by omega) he))
set_option maxRecDepth 100000 in
set_option maxHeartbeats 8000000 in
theorem jl_93 {K : gw_K} {Γ : gw_G} {cells slots b len : Nat} {xs : Nat → Int32} (C : gw_C K Γ cL_law 14 RL) (hX : va_X b len xs (gw_s K) (gw_s K).heap) (hbl : b < (gw_s K).heap.size) (hbA : ¬ gw_A Γ b) (hz : gw_z Γ = 0) (τ μ : gw_S) (o : Nat → Int64) (v7 : Int32) (w0 : Int32) (z : (gw_S × gw_S × (Nat → Int64) × Int32 × Int32) ⊕ (gw_S × gw_S × (Nat → Int64) × Int32 × Int32)) (hf : j_L_law_93 xs len τ μ o v7 w0 = some z) (hc : cells + 16 ≤ 600000) (hs : slots + 200 ≤ 7000000) (k : ∀ (s : gw_S × gw_S × (Nat → Int64) × Int32 × Int32) (c2 s2 : Nat), c2 ≤ cells + 16 → s2 ≤ slots + 200 → z = .inl s → gw_J K Γ room_1 c2 s2 (gw_W Γ s.1 s.2.1 s.2.2.1) 44 [(0, .ref b), (1, .ref (gw_a Γ 0)), (2, .ref (gw_a Γ 132)), (3, .ref (gw_a Γ 133)), (4, .ref (gw_a Γ 135)), (5, .ref (gw_a Γ 134)), (6, .int s.2.2.2.1), (7, .int s.2.2.2.2)] [])  : gw_J K Γ room_1 cells slots (gw_W Γ τ μ o) 93 [(0, .ref b), (1, .ref (gw_a Γ 0)), (2, .ref (gw_a Γ 132)), (3, .ref (gw_a Γ 133)), (4, .ref (gw_a Γ 135)), (5, .ref (gw_a Γ 134)), (7, .int v7)] [.int w0] := by
  refine gj_istore C 8 [(8, .int w0), (0, .ref b), (1, .ref (gw_a Γ 0)), (2, .ref (gw_a Γ 132)), (3, .ref (gw_a Γ 133)), (4, .ref (gw_a Γ 135)), (5, .ref (gw_a Γ 134)), (7, .int v7)] dL_law_93 (by decide) rfl ?_
  refine gj_iload C 7 dL_law_95 rfl ?_
  refine gj_bipush (v := 10) C dL_law_97 (by decide) ?_
  refine gj_ic_lt C 141 dL_law_99 (by decide) (fun c => ?_) (fun c => ?_)
  · replace hf := gw_ift hf c
    exact gj_pick [1, 2, 3, 4, 5, 6, 7, 0] _ rfl (jl_141 C hX hbl hbA hz τ μ o v7 w0 z hf (by omega) (by omega) (fun s c2 s2 hc hs he => k s c2 s2 (by omega) (by omega) he))
  · replace hf := gw_iff hf c
    refine gj_iload C 0 dL_law_102 rfl ?_
    refine gj_bipush (v := 41) C dL_law_104 (by decide) ?_
    refine gj_irem C dL_law_106 (by decide) ?_
    refine gj_if_ne C 196 dL_law_107 (by decide) (fun c => ?_) (fun c => ?_)
    · replace hf := gw_iff hf c
      exact gj_pick [1, 2, 3, 4, 5, 6, 7, 0] _ rfl (jl_196 C hX hbl hbA hz τ μ o v7 w0 z hf (by omega) (by omega) (fun s c2 s2 hc hs he => k s c2 s2 (by omega) (by omega) he))
    · replace hf := gw_ift hf c
      refine gj_iload C 0 dL_law_110 rfl ?_
      refine gj_bipush (v := 41) C dL_law_112 (by decide) ?_
      refine gj_idiv C dL_law_114 (by decide) ?_
      refine gj_iconst (v := 2) C dL_law_115 (by decide) ?_
      refine gj_irem C dL_law_116 (by decide) ?_
      refine gj_if_ne C 132 dL_law_117 (by decide) (fun c => ?_) (fun c => ?_)
      · replace hf := gw_iff hf c
        refine gj_aload C 6 dL_law_132 rfl ?_
        refine gj_iconst (v := 1) C dL_law_134 (by decide) ?_
        obtain ⟨g27, hf⟩ := gw_ifs hf
        refine gj_bld (j := 2) C (by decide) (gw_ibv g27) dL_law_135 ?_
        refine gj_bipush (v := 8) C dL_law_136 (by decide) ?_
        refine gj_ic_ge C 196 dL_law_138 (by decide) (fun c => ?_) (fun c => ?_)
        · replace hf := gw_ift hf c
          exact gj_pick [1, 2, 3, 4, 5, 6, 7, 0] _ rfl (jl_196 C hX hbl hbA hz τ μ o v7 w0 z hf (by omega) (by omega) (fun s c2 s2 hc hs he => k s c2 s2 (by omega) (by omega) he))
        · replace hf := gw_iff hf c
          exact gj_pick [1, 2, 3, 4, 5, 6, 7, 0] _ rfl (jl_141 C hX hbl hbA hz τ μ o v7 w0 z hf (by omega) (by omega) (fun s c2 s2 hc hs he => k s c2 s2 (by omega) (by omega) he))
      · replace hf := gw_ift hf c
        refine gj_aload C 6 dL_law_120 rfl ?_
        refine gj_iconst (v := 0) C dL_law_122 (by decide) ?_
        obtain ⟨g28, hf⟩ := gw_ifs hf
        refine gj_bld (j := 2) C (by decide) (gw_ibv g28) dL_law_123 ?_
        refine gj_bipush (v := 8) C dL_law_124 (by decide) ?_
        refine gj_ic_ge C 196 dL_law_126 (by decide) (fun c => ?_) (fun c => ?_)
        · replace hf := gw_ift hf c
          exact gj_pick [1, 2, 3, 4, 5, 6, 7, 0] _ rfl (jl_196 C hX hbl hbA hz τ μ o v7 w0 z hf (by omega) (by omega) (fun s c2 s2 hc hs he => k s c2 s2 (by omega) (by omega) he))
        · replace hf := gw_iff hf c
          refine gj_goto C 141 dL_law_129 (by decide) ?_
          exact gj_pick [1, 2, 3, 4, 5, 6, 7, 0] _ rfl (jl_141 C hX hbl hbA hz τ μ o v7 w0 z hf (by omega) (by omega) (fun s c2 s2 hc hs he => k s c2 s2 (by omega) (by omega) he))
set_option maxRecDepth 100000 in
set_option maxHeartbeats 8000000 in
theorem law_body {K : gw_K} {Γ : gw_G} {cells slots b len : Nat} {xs : Nat → Int32} (C : gw_C K Γ cL_law 14 RL) (hX : va_X b len xs (gw_s K) (gw_s K).heap) (hbl : b < (gw_s K).heap.size) (hbA : ¬ gw_A Γ b) (hz : gw_z Γ = 0) (τ μ : gw_S) (o : Nat → Int64) (v6 v7 : Int32) (z : (gw_S × gw_S × (Nat → Int64) × Int32 × Int32) ⊕ (gw_S × gw_S × (Nat → Int64) × Int32 × Int32)) (hf : b_L_law xs len (τ, μ, o, v6, v7) = some z) (hc : cells + 32 ≤ 600000) (hs : slots + 400 ≤ 7000000) (k : ∀ (s : gw_S × gw_S × (Nat → Int64) × Int32 × Int32) (c2 s2 : Nat), c2 ≤ cells + 32 → s2 ≤ slots + 400 → z = .inl s → gw_J K Γ room_1 c2 s2 (gw_W Γ s.1 s.2.1 s.2.2.1) 44 [(0, .ref b), (1, .ref (gw_a Γ 0)), (2, .ref (gw_a Γ 132)), (3, .ref (gw_a Γ 133)), (4, .ref (gw_a Γ 135)), (5, .ref (gw_a Γ 134)), (6, .int s.2.2.2.1), (7, .int s.2.2.2.2)] []) (kx : ∀ (s : gw_S × gw_S × (Nat → Int64) × Int32 × Int32), z = .inr s → gw_J K Γ room_1 cells slots (gw_W Γ s.1 s.2.1 s.2.2.1) 556 [(0, .ref b), (1, .ref (gw_a Γ 0)), (2, .ref (gw_a Γ 132)), (3, .ref (gw_a Γ 133)), (4, .ref (gw_a Γ 135)), (5, .ref (gw_a Γ 134)), (6, .int s.2.2.2.1), (7, .int s.2.2.2.2)] []) : gw_J K Γ room_1 cells slots (gw_W Γ τ μ o) 44 [(0, .ref b), (1, .ref (gw_a Γ 0)), (2, .ref (gw_a Γ 132)), (3, .ref (gw_a Γ 133)), (4, .ref (gw_a Γ 135)), (5, .ref (gw_a Γ 134)), (6, .int v6), (7, .int v7)] [] := by
  rw [b_L_law] at hf
  refine gj_iload C 7 dL_law_44 rfl ?_
  refine gj_bipush (v := 100) C dL_law_46 (by decide) ?_
  refine gj_ic_ge C 556 dL_law_48 (by decide) (fun c => ?_) (fun c => ?_)
  · replace hf := gw_ift hf c
    cases hf
    exact gj_pick [0, 1, 2, 3, 4, 5, 6, 7] _ rfl (kx _ rfl)
  · replace hf := gw_iff hf c
    refine gj_iload C 6 dL_law_51 rfl ?_
    refine gj_if_eq C 556 dL_law_53 (by decide) (fun c => ?_) (fun c => ?_)
    · replace hf := gw_ift hf c
      cases hf
      exact gj_pick [0, 1, 2, 3, 4, 5, 6, 7] _ rfl (kx _ rfl)
    · replace hf := gw_iff hf c
      refine gj_iload C 7 dL_law_56 rfl ?_
      refine gj_aload_n C 0 dL_law_58 rfl ?_
      refine gj_slen C hX hbl hbA dL_law_59 ?_
      refine gj_ic_ge C 73 dL_law_60 (by decide) (fun c => ?_) (fun c => ?_)
      · replace hf := gw_ift hf c
        refine gj_ldc (v := 69069) C cst_L_236 dL_law_73 ?_
        refine gj_iload C 7 dL_law_75 rfl ?_
        refine gj_imul C dL_law_77 ?_
        refine gj_iload C 7 dL_law_78 rfl ?_
        refine gj_imul C dL_law_80 ?_
        refine gj_ldc (v := 40503) C cst_L_237 dL_law_81 ?_
        refine gj_iload C 7 dL_law_83 rfl ?_
        refine gj_imul C dL_law_85 ?_
        refine gj_iadd C dL_law_86 ?_
        refine gj_bipush (v := 17) C dL_law_87 (by decide) ?_
        refine gj_iadd C dL_law_89 ?_
        refine gj_ldc (v := 2147483647) C cst_L_74 dL_law_90 ?_
        refine gj_iand C dL_law_92 ?_
        exact gj_pick [0, 1, 2, 3, 4, 5, 7] _ rfl (jl_93 C hX hbl hbA hz τ μ o v7 ((((((69069 : Int32) * v7) * v7) + ((40503 : Int32) * v7)) + (17 : Int32)) &&& (2147483647 : Int32)) z hf (by omega) (by omega) (fun s c2 s2 hc hs he => k s c2 s2 (by omega) (by omega) he))
      · replace hf := gw_iff hf c
        refine gj_aload_n C 0 dL_law_63 rfl ?_
        refine gj_iload C 7 dL_law_64 rfl ?_
        obtain ⟨g29, hf⟩ := gw_ifs hf
        refine gj_sld C hX hbl hbA (gw_ibv g29) dL_law_66 ?_
        refine gj_ldc (v := 2147483647) C cst_L_74 dL_law_67 ?_
        refine gj_iand C dL_law_69 ?_
        refine gj_goto C 93 dL_law_70 (by decide) ?_
        exact gj_pick [0, 1, 2, 3, 4, 5, 7] _ rfl (jl_93 C hX hbl hbA hz τ μ o v7 ((xs v7.toNatClampNeg) &&& (2147483647 : Int32)) z hf (by omega) (by omega) (fun s c2 s2 hc hs he => k s c2 s2 (by omega) (by omega) he))
