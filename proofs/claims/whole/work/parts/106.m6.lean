-- RingedPage.doAct
def fX6_doAct (a1 : Int32) (M : zMM) : Option (Int32 × zMM) :=
  (fX5_signAt (a1) M).bind fun q1 =>
  if q1.1 = (98 : Int32) then
    (fX5_numberAt ((a1 + 1)) (1) q1.2).bind fun q3 =>
    (fX5_numberAt ((a1 + 2)) (1) q3.2).bind fun q4 =>
    (fX6_setBest (q3.1) (q4.1) q4.2).bind fun q5 =>
    some (q5.1, q5.2)
  else
    if q1.1 = (99 : Int32) then
      (fX5_numberAt ((a1 + 1)) (1) q1.2).bind fun q6 =>
      (fX5_numberAt ((a1 + 2)) (2) q6.2).bind fun q7 =>
      (fX5_numberAt ((a1 + 4)) (1) q7.2).bind fun q8 =>
      (fX6_putWord 0 (q6.1) (q7.1) (q8.1) q8.2).bind fun q9 =>
      some (q9.1, q9.2)
    else
      if q1.1 = (100 : Int32) then
        some ((-1), q1.2)
      else
        if q1.1 = (101 : Int32) then
          some ((-1), q1.2)
        else
          if q1.1 = (102 : Int32) then
            some ((-1), q1.2)
          else
            if q1.1 = (103 : Int32) then
              (fX5_numberAt ((a1 + 1)) (1) q1.2).bind fun q10 =>
              (fX5_numberAt ((a1 + 2)) (2) q10.2).bind fun q11 =>
              (fX6_dropWord 0 (q10.1) (q11.1) q11.2).bind fun q12 =>
              some (q12.1, q12.2)
            else
              if q1.1 = (104 : Int32) then
                (fX5_numberAt ((a1 + 1)) (2) q1.2).bind fun q13 =>
                (fX6_setMeasure (1) (q13.1) q13.2).bind fun q14 =>
                some (q14.1, q14.2)
              else
                if q1.1 = (105 : Int32) then
                  some ((-1), q1.2)
                else
                  if q1.1 = (106 : Int32) then
                    some ((-1), q1.2)
                  else
                    if q1.1 = (107 : Int32) then
                      some ((-1), q1.2)
                    else
                      if q1.1 = (108 : Int32) then
                        some ((-1), q1.2)
                      else
                        if q1.1 = (109 : Int32) then
                          some ((-1), q1.2)
                        else
                          if q1.1 = (110 : Int32) then
                            some ((-1), q1.2)
                          else
                            if q1.1 = (111 : Int32) then
                              some ((-1), q1.2)
                            else
                              if q1.1 = (112 : Int32) then
                                (fX5_numberAt ((a1 + 1)) (1) q1.2).bind fun q15 =>
                                (fX5_numberAt ((a1 + 2)) (2) q15.2).bind fun q16 =>
                                (fX5_numberAt ((a1 + 4)) (2) q16.2).bind fun q17 =>
                                (fX6_setPlan (q15.1) (q16.1) (q17.1) q17.2).bind fun q18 =>
                                some (q18.1, q18.2)
                              else
                                if q1.1 = (113 : Int32) then
                                  some ((-1), q1.2)
                                else
                                  if q1.1 = (114 : Int32) then
                                    some ((-1), q1.2)
                                  else
                                    if q1.1 = (115 : Int32) then
                                      some ((-1), q1.2)
                                    else
                                      if q1.1 = (116 : Int32) then
                                        some ((-1), q1.2)
                                      else
                                        if q1.1 = (117 : Int32) then
                                          (fX5_numberAt ((a1 + 1)) (1) q1.2).bind fun q19 =>
                                          (fX6_setMeasure (2) (q19.1) q19.2).bind fun q20 =>
                                          some (q20.1, q20.2)
                                        else
                                          if q1.1 = (118 : Int32) then
                                            some ((-1), q1.2)
                                          else
                                            if q1.1 = (119 : Int32) then
                                              (fX5_numberAt ((a1 + 1)) (2) q1.2).bind fun q21 =>
                                              (fX6_setMeasure (0) (q21.1) q21.2).bind fun q22 =>
                                              some (q22.1, q22.2)
                                            else
                                              if q1.1 = (120 : Int32) then
                                                (fX6_swapComments  q1.2).bind fun q23 =>
                                                some (q23.1, q23.2)
                                              else
                                                some ((-1), q1.2)
set_option maxRecDepth 100000 in
theorem tX6_doAct_0 (a1 : Int32) (M : zMM) (q : Int32 × zMM) (h : fX6_doAct a1  M = some q) : zEV iX6_doAct 0 0 (zZO (some (.inl q.1), q.2)) 0 [(0, .inr (.inr 157)), (1, .inl a1)] [] M := by
  unfold fX6_doAct at h
  refine zEV.aload_n dX6_doAct_0 rfl 0 rfl ?_
  refine zEV.gfr rfl inz6 7 (by decide) wf_RX6_51 (by decide) rfl rfl dX6_doAct_1 ?_
  refine zEV.iload_n dX6_doAct_4 rfl 1 rfl ?_
  obtain ⟨q1, hq1, h⟩ := bind_yes h
  refine zEV.callVi (kX5_signAt (a1)  M q1 hq1) (by decide) rfl rfl wm_RX6_316 wc_X5_signAt hy_X5_signAt rfl ⟨Nat.le_of_ble_eq_true rfl, Nat.le_of_ble_eq_true rfl⟩ rfl (Nat.le_of_ble_eq_true rfl) dX6_doAct_5 ?_
  by_cases c2_0 : q1.1 = (98 : Int32)
  · rw [if_pos c2_0] at h
    refine zEV.tabIn 281 dX6_doAct_8 (98) c2_0 (by decide) (by decide) rfl (by decide) ?_
    refine zEV.aload_n dX6_doAct_281 rfl 0 rfl ?_
    refine zEV.aload_n dX6_doAct_282 rfl 0 rfl ?_
    refine zEV.gfr rfl inz6 7 (by decide) wf_RX6_51 (by decide) rfl rfl dX6_doAct_283 ?_
    refine zEV.iload_n dX6_doAct_286 rfl 1 rfl ?_
    refine zEV.iconst (v := 1) dX6_doAct_287 rfl ?_
    refine zEV.iadd dX6_doAct_288 ?_
    refine zEV.iconst (v := 1) dX6_doAct_289 rfl ?_
    obtain ⟨q3, hq3, h⟩ := bind_yes h
    refine zEV.callVi (kX5_numberAt ((a1 + 1)) (1)  q1.2 q3 hq3) (by decide) rfl rfl wm_RX6_364 wc_X5_numberAt hy_X5_numberAt rfl ⟨Nat.le_of_ble_eq_true rfl, Nat.le_of_ble_eq_true rfl⟩ rfl (Nat.le_of_ble_eq_true rfl) dX6_doAct_290 ?_
    refine zEV.aload_n dX6_doAct_293 rfl 0 rfl ?_
    refine zEV.gfr rfl inz6 7 (by decide) wf_RX6_51 (by decide) rfl rfl dX6_doAct_294 ?_
    refine zEV.iload_n dX6_doAct_297 rfl 1 rfl ?_
    refine zEV.iconst (v := 2) dX6_doAct_298 rfl ?_
    refine zEV.iadd dX6_doAct_299 ?_
    refine zEV.iconst (v := 1) dX6_doAct_300 rfl ?_
    obtain ⟨q4, hq4, h⟩ := bind_yes h
    refine zEV.callVi (kX5_numberAt ((a1 + 2)) (1)  q3.2 q4 hq4) (by decide) rfl rfl wm_RX6_364 wc_X5_numberAt hy_X5_numberAt rfl ⟨Nat.le_of_ble_eq_true rfl, Nat.le_of_ble_eq_true rfl⟩ rfl (Nat.le_of_ble_eq_true rfl) dX6_doAct_301 ?_
    obtain ⟨q5, hq5, h⟩ := bind_yes h
    refine zEV.callVi (kX6_setBest (q3.1) (q4.1)  q4.2 q5 hq5) (by decide) rfl rfl wm_RX6_307 wc_X6_setBest hy_X6_setBest rfl ⟨Nat.le_of_ble_eq_true rfl, Nat.le_of_ble_eq_true rfl⟩ rfl (Nat.le_of_ble_eq_true rfl) dX6_doAct_304 ?_
    have h := Option.some.inj h
    subst h
    exact zEV.iret rfl dX6_doAct_307
  · rw [if_neg c2_0] at h
    by_cases c2_1 : q1.1 = (99 : Int32)
    · rw [if_pos c2_1] at h
      refine zEV.tabIn 210 dX6_doAct_8 (99) c2_1 (by decide) (by decide) rfl (by decide) ?_
      refine zEV.aload_n dX6_doAct_210 rfl 0 rfl ?_
      refine zEV.gfr rfl inz6 0 (by decide) wf_RX6_12 (by decide) rfl rfl dX6_doAct_211 ?_
      refine zEV.aload_n dX6_doAct_214 rfl 0 rfl ?_
      refine zEV.gfr rfl inz6 7 (by decide) wf_RX6_51 (by decide) rfl rfl dX6_doAct_215 ?_
      refine zEV.iload_n dX6_doAct_218 rfl 1 rfl ?_
      refine zEV.iconst (v := 1) dX6_doAct_219 rfl ?_
      refine zEV.iadd dX6_doAct_220 ?_
      refine zEV.iconst (v := 1) dX6_doAct_221 rfl ?_
      obtain ⟨q6, hq6, h⟩ := bind_yes h
      refine zEV.callVi (kX5_numberAt ((a1 + 1)) (1)  q1.2 q6 hq6) (by decide) rfl rfl wm_RX6_364 wc_X5_numberAt hy_X5_numberAt rfl ⟨Nat.le_of_ble_eq_true rfl, Nat.le_of_ble_eq_true rfl⟩ rfl (Nat.le_of_ble_eq_true rfl) dX6_doAct_222 ?_
      refine zEV.aload_n dX6_doAct_225 rfl 0 rfl ?_
      refine zEV.gfr rfl inz6 7 (by decide) wf_RX6_51 (by decide) rfl rfl dX6_doAct_226 ?_
      refine zEV.iload_n dX6_doAct_229 rfl 1 rfl ?_
      refine zEV.iconst (v := 2) dX6_doAct_230 rfl ?_
      refine zEV.iadd dX6_doAct_231 ?_
      refine zEV.iconst (v := 2) dX6_doAct_232 rfl ?_
      obtain ⟨q7, hq7, h⟩ := bind_yes h
      refine zEV.callVi (kX5_numberAt ((a1 + 2)) (2)  q6.2 q7 hq7) (by decide) rfl rfl wm_RX6_364 wc_X5_numberAt hy_X5_numberAt rfl ⟨Nat.le_of_ble_eq_true rfl, Nat.le_of_ble_eq_true rfl⟩ rfl (Nat.le_of_ble_eq_true rfl) dX6_doAct_233 ?_
      refine zEV.aload_n dX6_doAct_236 rfl 0 rfl ?_
      refine zEV.gfr rfl inz6 7 (by decide) wf_RX6_51 (by decide) rfl rfl dX6_doAct_237 ?_
      refine zEV.iload_n dX6_doAct_240 rfl 1 rfl ?_
      refine zEV.iconst (v := 4) dX6_doAct_241 rfl ?_
      refine zEV.iadd dX6_doAct_242 ?_
      refine zEV.iconst (v := 1) dX6_doAct_243 rfl ?_
      obtain ⟨q8, hq8, h⟩ := bind_yes h
      refine zEV.callVi (kX5_numberAt ((a1 + 4)) (1)  q7.2 q8 hq8) (by decide) rfl rfl wm_RX6_364 wc_X5_numberAt hy_X5_numberAt rfl ⟨Nat.le_of_ble_eq_true rfl, Nat.le_of_ble_eq_true rfl⟩ rfl (Nat.le_of_ble_eq_true rfl) dX6_doAct_244 ?_
      obtain ⟨q9, hq9, h⟩ := bind_yes h
      refine zEV.callSi (kX6_putWord 0 (q6.1) (q7.1) (q8.1) lf_0 q8.2 q9 hq9) wm_RX6_280 wc_X6_putWord hy_X6_putWord rfl ⟨Nat.le_of_ble_eq_true rfl, Nat.le_of_ble_eq_true rfl⟩ rfl (Nat.le_of_ble_eq_true rfl) dX6_doAct_247 ?_
      have h := Option.some.inj h
      subst h
      exact zEV.iret rfl dX6_doAct_250
    · rw [if_neg c2_1] at h
      by_cases c2_2 : q1.1 = (100 : Int32)
      · rw [if_pos c2_2] at h
        refine zEV.tabIn 308 dX6_doAct_8 (100) c2_2 (by decide) (by decide) rfl (by decide) ?_
        refine zEV.iconst (v := (-1)) dX6_doAct_308 rfl ?_
        have h := Option.some.inj h
        subst h
        exact zEV.iret rfl dX6_doAct_309
      · rw [if_neg c2_2] at h
        by_cases c2_3 : q1.1 = (101 : Int32)
        · rw [if_pos c2_3] at h
          refine zEV.tabIn 308 dX6_doAct_8 (101) c2_3 (by decide) (by decide) rfl (by decide) ?_
          refine zEV.iconst (v := (-1)) dX6_doAct_308 rfl ?_
          have h := Option.some.inj h
          subst h
          exact zEV.iret rfl dX6_doAct_309
        · rw [if_neg c2_3] at h
          by_cases c2_4 : q1.1 = (102 : Int32)
          · rw [if_pos c2_4] at h
            refine zEV.tabIn 308 dX6_doAct_8 (102) c2_4 (by decide) (by decide) rfl (by decide) ?_
            refine zEV.iconst (v := (-1)) dX6_doAct_308 rfl ?_
            have h := Option.some.inj h
            subst h
            exact zEV.iret rfl dX6_doAct_309
          · rw [if_neg c2_4] at h
            by_cases c2_5 : q1.1 = (103 : Int32)
            · rw [if_pos c2_5] at h
              refine zEV.tabIn 251 dX6_doAct_8 (103) c2_5 (by decide) (by decide) rfl (by decide) ?_
              refine zEV.aload_n dX6_doAct_251 rfl 0 rfl ?_
              refine zEV.gfr rfl inz6 0 (by decide) wf_RX6_12 (by decide) rfl rfl dX6_doAct_252 ?_
              refine zEV.aload_n dX6_doAct_255 rfl 0 rfl ?_
              refine zEV.gfr rfl inz6 7 (by decide) wf_RX6_51 (by decide) rfl rfl dX6_doAct_256 ?_
              refine zEV.iload_n dX6_doAct_259 rfl 1 rfl ?_
              refine zEV.iconst (v := 1) dX6_doAct_260 rfl ?_
              refine zEV.iadd dX6_doAct_261 ?_
              refine zEV.iconst (v := 1) dX6_doAct_262 rfl ?_
              obtain ⟨q10, hq10, h⟩ := bind_yes h
              refine zEV.callVi (kX5_numberAt ((a1 + 1)) (1)  q1.2 q10 hq10) (by decide) rfl rfl wm_RX6_364 wc_X5_numberAt hy_X5_numberAt rfl ⟨Nat.le_of_ble_eq_true rfl, Nat.le_of_ble_eq_true rfl⟩ rfl (Nat.le_of_ble_eq_true rfl) dX6_doAct_263 ?_
              refine zEV.aload_n dX6_doAct_266 rfl 0 rfl ?_
              refine zEV.gfr rfl inz6 7 (by decide) wf_RX6_51 (by decide) rfl rfl dX6_doAct_267 ?_
              refine zEV.iload_n dX6_doAct_270 rfl 1 rfl ?_
              refine zEV.iconst (v := 2) dX6_doAct_271 rfl ?_
              refine zEV.iadd dX6_doAct_272 ?_
              refine zEV.iconst (v := 2) dX6_doAct_273 rfl ?_
              obtain ⟨q11, hq11, h⟩ := bind_yes h
              refine zEV.callVi (kX5_numberAt ((a1 + 2)) (2)  q10.2 q11 hq11) (by decide) rfl rfl wm_RX6_364 wc_X5_numberAt hy_X5_numberAt rfl ⟨Nat.le_of_ble_eq_true rfl, Nat.le_of_ble_eq_true rfl⟩ rfl (Nat.le_of_ble_eq_true rfl) dX6_doAct_274 ?_
              obtain ⟨q12, hq12, h⟩ := bind_yes h
              refine zEV.callSi (kX6_dropWord 0 (q10.1) (q11.1) lf_0 q11.2 q12 hq12) wm_RX6_287 wc_X6_dropWord hy_X6_dropWord rfl ⟨Nat.le_of_ble_eq_true rfl, Nat.le_of_ble_eq_true rfl⟩ rfl (Nat.le_of_ble_eq_true rfl) dX6_doAct_277 ?_
              have h := Option.some.inj h
              subst h
              exact zEV.iret rfl dX6_doAct_280
            · rw [if_neg c2_5] at h
              by_cases c2_6 : q1.1 = (104 : Int32)
              · rw [if_pos c2_6] at h
                refine zEV.tabIn 133 dX6_doAct_8 (104) c2_6 (by decide) (by decide) rfl (by decide) ?_
                refine zEV.aload_n dX6_doAct_133 rfl 0 rfl ?_
                refine zEV.iconst (v := 1) dX6_doAct_134 rfl ?_
                refine zEV.aload_n dX6_doAct_135 rfl 0 rfl ?_
                refine zEV.gfr rfl inz6 7 (by decide) wf_RX6_51 (by decide) rfl rfl dX6_doAct_136 ?_
                refine zEV.iload_n dX6_doAct_139 rfl 1 rfl ?_
                refine zEV.iconst (v := 1) dX6_doAct_140 rfl ?_
                refine zEV.iadd dX6_doAct_141 ?_
                refine zEV.iconst (v := 2) dX6_doAct_142 rfl ?_
                obtain ⟨q13, hq13, h⟩ := bind_yes h
                refine zEV.callVi (kX5_numberAt ((a1 + 1)) (2)  q1.2 q13 hq13) (by decide) rfl rfl wm_RX6_364 wc_X5_numberAt hy_X5_numberAt rfl ⟨Nat.le_of_ble_eq_true rfl, Nat.le_of_ble_eq_true rfl⟩ rfl (Nat.le_of_ble_eq_true rfl) dX6_doAct_143 ?_
                obtain ⟨q14, hq14, h⟩ := bind_yes h
                refine zEV.callVi (kX6_setMeasure (1) (q13.1)  q13.2 q14 hq14) (by decide) rfl rfl wm_RX6_291 wc_X6_setMeasure hy_X6_setMeasure rfl ⟨Nat.le_of_ble_eq_true rfl, Nat.le_of_ble_eq_true rfl⟩ rfl (Nat.le_of_ble_eq_true rfl) dX6_doAct_146 ?_
                have h := Option.some.inj h
                subst h
                exact zEV.iret rfl dX6_doAct_149
              · rw [if_neg c2_6] at h
                by_cases c2_7 : q1.1 = (105 : Int32)
                · rw [if_pos c2_7] at h
                  refine zEV.tabIn 308 dX6_doAct_8 (105) c2_7 (by decide) (by decide) rfl (by decide) ?_
                  refine zEV.iconst (v := (-1)) dX6_doAct_308 rfl ?_
                  have h := Option.some.inj h
                  subst h
                  exact zEV.iret rfl dX6_doAct_309
                · rw [if_neg c2_7] at h
                  by_cases c2_8 : q1.1 = (106 : Int32)
                  · rw [if_pos c2_8] at h
                    refine zEV.tabIn 308 dX6_doAct_8 (106) c2_8 (by decide) (by decide) rfl (by decide) ?_
                    refine zEV.iconst (v := (-1)) dX6_doAct_308 rfl ?_
                    have h := Option.some.inj h
                    subst h
                    exact zEV.iret rfl dX6_doAct_309
                  · rw [if_neg c2_8] at h
                    by_cases c2_9 : q1.1 = (107 : Int32)
                    · rw [if_pos c2_9] at h
                      refine zEV.tabIn 308 dX6_doAct_8 (107) c2_9 (by decide) (by decide) rfl (by decide) ?_
                      refine zEV.iconst (v := (-1)) dX6_doAct_308 rfl ?_
                      have h := Option.some.inj h
                      subst h
                      exact zEV.iret rfl dX6_doAct_309
                    · rw [if_neg c2_9] at h
                      by_cases c2_10 : q1.1 = (108 : Int32)
                      · rw [if_pos c2_10] at h
                        refine zEV.tabIn 308 dX6_doAct_8 (108) c2_10 (by decide) (by decide) rfl (by decide) ?_
                        refine zEV.iconst (v := (-1)) dX6_doAct_308 rfl ?_
                        have h := Option.some.inj h
                        subst h
                        exact zEV.iret rfl dX6_doAct_309
                      · rw [if_neg c2_10] at h
                        by_cases c2_11 : q1.1 = (109 : Int32)
                        · rw [if_pos c2_11] at h
                          refine zEV.tabIn 308 dX6_doAct_8 (109) c2_11 (by decide) (by decide) rfl (by decide) ?_
                          refine zEV.iconst (v := (-1)) dX6_doAct_308 rfl ?_
                          have h := Option.some.inj h
                          subst h
                          exact zEV.iret rfl dX6_doAct_309
                        · rw [if_neg c2_11] at h
                          by_cases c2_12 : q1.1 = (110 : Int32)
                          · rw [if_pos c2_12] at h
                            refine zEV.tabIn 308 dX6_doAct_8 (110) c2_12 (by decide) (by decide) rfl (by decide) ?_
                            refine zEV.iconst (v := (-1)) dX6_doAct_308 rfl ?_
                            have h := Option.some.inj h
                            subst h
                            exact zEV.iret rfl dX6_doAct_309
                          · rw [if_neg c2_12] at h
                            by_cases c2_13 : q1.1 = (111 : Int32)
                            · rw [if_pos c2_13] at h
                              refine zEV.tabIn 308 dX6_doAct_8 (111) c2_13 (by decide) (by decide) rfl (by decide) ?_
                              refine zEV.iconst (v := (-1)) dX6_doAct_308 rfl ?_
                              have h := Option.some.inj h
                              subst h
                              exact zEV.iret rfl dX6_doAct_309
                            · rw [if_neg c2_13] at h
                              by_cases c2_14 : q1.1 = (112 : Int32)
                              · rw [if_pos c2_14] at h
                                refine zEV.tabIn 172 dX6_doAct_8 (112) c2_14 (by decide) (by decide) rfl (by decide) ?_
                                refine zEV.aload_n dX6_doAct_172 rfl 0 rfl ?_
                                refine zEV.aload_n dX6_doAct_173 rfl 0 rfl ?_
                                refine zEV.gfr rfl inz6 7 (by decide) wf_RX6_51 (by decide) rfl rfl dX6_doAct_174 ?_
                                refine zEV.iload_n dX6_doAct_177 rfl 1 rfl ?_
                                refine zEV.iconst (v := 1) dX6_doAct_178 rfl ?_
                                refine zEV.iadd dX6_doAct_179 ?_
                                refine zEV.iconst (v := 1) dX6_doAct_180 rfl ?_
                                obtain ⟨q15, hq15, h⟩ := bind_yes h
                                refine zEV.callVi (kX5_numberAt ((a1 + 1)) (1)  q1.2 q15 hq15) (by decide) rfl rfl wm_RX6_364 wc_X5_numberAt hy_X5_numberAt rfl ⟨Nat.le_of_ble_eq_true rfl, Nat.le_of_ble_eq_true rfl⟩ rfl (Nat.le_of_ble_eq_true rfl) dX6_doAct_181 ?_
                                refine zEV.aload_n dX6_doAct_184 rfl 0 rfl ?_
                                refine zEV.gfr rfl inz6 7 (by decide) wf_RX6_51 (by decide) rfl rfl dX6_doAct_185 ?_
                                refine zEV.iload_n dX6_doAct_188 rfl 1 rfl ?_
                                refine zEV.iconst (v := 2) dX6_doAct_189 rfl ?_
                                refine zEV.iadd dX6_doAct_190 ?_
                                refine zEV.iconst (v := 2) dX6_doAct_191 rfl ?_
                                obtain ⟨q16, hq16, h⟩ := bind_yes h
                                refine zEV.callVi (kX5_numberAt ((a1 + 2)) (2)  q15.2 q16 hq16) (by decide) rfl rfl wm_RX6_364 wc_X5_numberAt hy_X5_numberAt rfl ⟨Nat.le_of_ble_eq_true rfl, Nat.le_of_ble_eq_true rfl⟩ rfl (Nat.le_of_ble_eq_true rfl) dX6_doAct_192 ?_
                                refine zEV.aload_n dX6_doAct_195 rfl 0 rfl ?_
                                refine zEV.gfr rfl inz6 7 (by decide) wf_RX6_51 (by decide) rfl rfl dX6_doAct_196 ?_
                                refine zEV.iload_n dX6_doAct_199 rfl 1 rfl ?_
                                refine zEV.iconst (v := 4) dX6_doAct_200 rfl ?_
                                refine zEV.iadd dX6_doAct_201 ?_
                                refine zEV.iconst (v := 2) dX6_doAct_202 rfl ?_
                                obtain ⟨q17, hq17, h⟩ := bind_yes h
                                refine zEV.callVi (kX5_numberAt ((a1 + 4)) (2)  q16.2 q17 hq17) (by decide) rfl rfl wm_RX6_364 wc_X5_numberAt hy_X5_numberAt rfl ⟨Nat.le_of_ble_eq_true rfl, Nat.le_of_ble_eq_true rfl⟩ rfl (Nat.le_of_ble_eq_true rfl) dX6_doAct_203 ?_
                                obtain ⟨q18, hq18, h⟩ := bind_yes h
                                refine zEV.callVi (kX6_setPlan (q15.1) (q16.1) (q17.1)  q17.2 q18 hq18) (by decide) rfl rfl wm_RX6_303 wc_X6_setPlan hy_X6_setPlan rfl ⟨Nat.le_of_ble_eq_true rfl, Nat.le_of_ble_eq_true rfl⟩ rfl (Nat.le_of_ble_eq_true rfl) dX6_doAct_206 ?_
                                have h := Option.some.inj h
                                subst h
                                exact zEV.iret rfl dX6_doAct_209
                              · rw [if_neg c2_14] at h
                                by_cases c2_15 : q1.1 = (113 : Int32)
                                · rw [if_pos c2_15] at h
                                  refine zEV.tabIn 308 dX6_doAct_8 (113) c2_15 (by decide) (by decide) rfl (by decide) ?_
                                  refine zEV.iconst (v := (-1)) dX6_doAct_308 rfl ?_
                                  have h := Option.some.inj h
                                  subst h
                                  exact zEV.iret rfl dX6_doAct_309
                                · rw [if_neg c2_15] at h
                                  by_cases c2_16 : q1.1 = (114 : Int32)
                                  · rw [if_pos c2_16] at h
                                    refine zEV.tabIn 308 dX6_doAct_8 (114) c2_16 (by decide) (by decide) rfl (by decide) ?_
                                    refine zEV.iconst (v := (-1)) dX6_doAct_308 rfl ?_
                                    have h := Option.some.inj h
                                    subst h
                                    exact zEV.iret rfl dX6_doAct_309
                                  · rw [if_neg c2_16] at h
                                    by_cases c2_17 : q1.1 = (115 : Int32)
                                    · rw [if_pos c2_17] at h
                                      refine zEV.tabIn 308 dX6_doAct_8 (115) c2_17 (by decide) (by decide) rfl (by decide) ?_
                                      refine zEV.iconst (v := (-1)) dX6_doAct_308 rfl ?_
                                      have h := Option.some.inj h
                                      subst h
                                      exact zEV.iret rfl dX6_doAct_309
                                    · rw [if_neg c2_17] at h
                                      by_cases c2_18 : q1.1 = (116 : Int32)
                                      · rw [if_pos c2_18] at h
                                        refine zEV.tabIn 308 dX6_doAct_8 (116) c2_18 (by decide) (by decide) rfl (by decide) ?_
                                        refine zEV.iconst (v := (-1)) dX6_doAct_308 rfl ?_
                                        have h := Option.some.inj h
                                        subst h
                                        exact zEV.iret rfl dX6_doAct_309
                                      · rw [if_neg c2_18] at h
                                        by_cases c2_19 : q1.1 = (117 : Int32)
                                        · rw [if_pos c2_19] at h
                                          refine zEV.tabIn 150 dX6_doAct_8 (117) c2_19 (by decide) (by decide) rfl (by decide) ?_
                                          refine zEV.aload_n dX6_doAct_150 rfl 0 rfl ?_
                                          refine zEV.iconst (v := 2) dX6_doAct_151 rfl ?_
                                          refine zEV.aload_n dX6_doAct_152 rfl 0 rfl ?_
                                          refine zEV.gfr rfl inz6 7 (by decide) wf_RX6_51 (by decide) rfl rfl dX6_doAct_153 ?_
                                          refine zEV.iload_n dX6_doAct_156 rfl 1 rfl ?_
                                          refine zEV.iconst (v := 1) dX6_doAct_157 rfl ?_
                                          refine zEV.iadd dX6_doAct_158 ?_
                                          refine zEV.iconst (v := 1) dX6_doAct_159 rfl ?_
                                          obtain ⟨q19, hq19, h⟩ := bind_yes h
                                          refine zEV.callVi (kX5_numberAt ((a1 + 1)) (1)  q1.2 q19 hq19) (by decide) rfl rfl wm_RX6_364 wc_X5_numberAt hy_X5_numberAt rfl ⟨Nat.le_of_ble_eq_true rfl, Nat.le_of_ble_eq_true rfl⟩ rfl (Nat.le_of_ble_eq_true rfl) dX6_doAct_160 ?_
                                          obtain ⟨q20, hq20, h⟩ := bind_yes h
                                          refine zEV.callVi (kX6_setMeasure (2) (q19.1)  q19.2 q20 hq20) (by decide) rfl rfl wm_RX6_291 wc_X6_setMeasure hy_X6_setMeasure rfl ⟨Nat.le_of_ble_eq_true rfl, Nat.le_of_ble_eq_true rfl⟩ rfl (Nat.le_of_ble_eq_true rfl) dX6_doAct_163 ?_
                                          have h := Option.some.inj h
                                          subst h
                                          exact zEV.iret rfl dX6_doAct_166
                                        · rw [if_neg c2_19] at h
                                          by_cases c2_20 : q1.1 = (118 : Int32)
                                          · rw [if_pos c2_20] at h
                                            refine zEV.tabIn 308 dX6_doAct_8 (118) c2_20 (by decide) (by decide) rfl (by decide) ?_
                                            refine zEV.iconst (v := (-1)) dX6_doAct_308 rfl ?_
                                            have h := Option.some.inj h
                                            subst h
                                            exact zEV.iret rfl dX6_doAct_309
                                          · rw [if_neg c2_20] at h
                                            by_cases c2_21 : q1.1 = (119 : Int32)
                                            · rw [if_pos c2_21] at h
                                              refine zEV.tabIn 116 dX6_doAct_8 (119) c2_21 (by decide) (by decide) rfl (by decide) ?_
                                              refine zEV.aload_n dX6_doAct_116 rfl 0 rfl ?_
                                              refine zEV.iconst (v := 0) dX6_doAct_117 rfl ?_
                                              refine zEV.aload_n dX6_doAct_118 rfl 0 rfl ?_
                                              refine zEV.gfr rfl inz6 7 (by decide) wf_RX6_51 (by decide) rfl rfl dX6_doAct_119 ?_
                                              refine zEV.iload_n dX6_doAct_122 rfl 1 rfl ?_
                                              refine zEV.iconst (v := 1) dX6_doAct_123 rfl ?_
                                              refine zEV.iadd dX6_doAct_124 ?_
                                              refine zEV.iconst (v := 2) dX6_doAct_125 rfl ?_
                                              obtain ⟨q21, hq21, h⟩ := bind_yes h
                                              refine zEV.callVi (kX5_numberAt ((a1 + 1)) (2)  q1.2 q21 hq21) (by decide) rfl rfl wm_RX6_364 wc_X5_numberAt hy_X5_numberAt rfl ⟨Nat.le_of_ble_eq_true rfl, Nat.le_of_ble_eq_true rfl⟩ rfl (Nat.le_of_ble_eq_true rfl) dX6_doAct_126 ?_
                                              obtain ⟨q22, hq22, h⟩ := bind_yes h
                                              refine zEV.callVi (kX6_setMeasure (0) (q21.1)  q21.2 q22 hq22) (by decide) rfl rfl wm_RX6_291 wc_X6_setMeasure hy_X6_setMeasure rfl ⟨Nat.le_of_ble_eq_true rfl, Nat.le_of_ble_eq_true rfl⟩ rfl (Nat.le_of_ble_eq_true rfl) dX6_doAct_129 ?_
                                              have h := Option.some.inj h
                                              subst h
                                              exact zEV.iret rfl dX6_doAct_132
                                            · rw [if_neg c2_21] at h
                                              by_cases c2_22 : q1.1 = (120 : Int32)
                                              · rw [if_pos c2_22] at h
                                                refine zEV.tabIn 167 dX6_doAct_8 (120) c2_22 (by decide) (by decide) rfl (by decide) ?_
                                                refine zEV.aload_n dX6_doAct_167 rfl 0 rfl ?_
                                                obtain ⟨q23, hq23, h⟩ := bind_yes h
                                                refine zEV.callVi (kX6_swapComments   q1.2 q23 hq23) (by decide) rfl rfl wm_RX6_300 wc_X6_swapComments hy_X6_swapComments rfl ⟨Nat.le_of_ble_eq_true rfl, Nat.le_of_ble_eq_true rfl⟩ rfl (Nat.le_of_ble_eq_true rfl) dX6_doAct_168 ?_
                                                have h := Option.some.inj h
                                                subst h
                                                exact zEV.iret rfl dX6_doAct_171
                                              · rw [if_neg c2_22] at h
                                                refine zEV.tabOut 308 22 dX6_doAct_8 (by decide) (by decide) rfl (fun k hk => ?_) (by decide) ?_
                                                · match k, hk with
                                                  | 0, _ => exact c2_0
                                                  | 1, _ => exact c2_1
                                                  | 2, _ => exact c2_2
                                                  | 3, _ => exact c2_3
                                                  | 4, _ => exact c2_4
                                                  | 5, _ => exact c2_5
                                                  | 6, _ => exact c2_6
                                                  | 7, _ => exact c2_7
                                                  | 8, _ => exact c2_8
                                                  | 9, _ => exact c2_9
                                                  | 10, _ => exact c2_10
                                                  | 11, _ => exact c2_11
                                                  | 12, _ => exact c2_12
                                                  | 13, _ => exact c2_13
                                                  | 14, _ => exact c2_14
                                                  | 15, _ => exact c2_15
                                                  | 16, _ => exact c2_16
                                                  | 17, _ => exact c2_17
                                                  | 18, _ => exact c2_18
                                                  | 19, _ => exact c2_19
                                                  | 20, _ => exact c2_20
                                                  | 21, _ => exact c2_21
                                                  | 22, _ => exact c2_22
                                                  | k + 23, hk => exact absurd hk (by omega)
                                                refine zEV.iconst (v := (-1)) dX6_doAct_308 rfl ?_
                                                have h := Option.some.inj h
                                                subst h
                                                exact zEV.iret rfl dX6_doAct_309
theorem kX6_doAct (a1 : Int32) (M : zMM) (q : Int32 × zMM) (h : fX6_doAct a1 M = some q) : zCN yX6_doAct iX6_doAct [.inr (.inr 157), .inl a1] M (some (.inl q.1), q.2) :=
  zCN.of (by decide) rfl rfl (Nat.le_of_ble_eq_true rfl) (zEV.perm [0, 1] rfl (tX6_doAct_0 a1 M q h))
-- RingedPage.day
def fX6_day_137 (l2 : Int32) (s0 : Int64) (M : zMM) : Option (Int32 × zMM) :=
  (fX4_costOf 0 M).bind fun q1 =>
  (fX2_tell_ (s0) ((Int32.toInt64 q1.1)) q1.2).bind fun q2 =>
  some (l2, q2)
set_option maxRecDepth 100000 in
theorem tX6_day_137 (l2 : Int32) (s0 : Int64) (M : zMM) (q : Int32 × zMM) (h : fX6_day_137 l2 s0 M = some q) : zEV iX6_day 0 0 (zZO (some (.inl q.1), q.2)) 137 [(0, .inr (.inr 157)), (2, .inl l2)] [.inr (.inl s0), .inr (.inr 155)] M := by
  unfold fX6_day_137 at h
  refine zEV.aload_n dX6_day_137 rfl 0 rfl ?_
  refine zEV.gfr rfl inz6 2 (by decide) wf_RX6_22 (by decide) rfl rfl dX6_day_138 ?_
  refine zEV.aload_n dX6_day_141 rfl 0 rfl ?_
  refine zEV.gfr rfl inz6 0 (by decide) wf_RX6_12 (by decide) rfl rfl dX6_day_142 ?_
  obtain ⟨q1, hq1, h⟩ := bind_yes h
  refine zEV.callVi (kX4_costOf 0 lf_0 M q1 hq1) (by decide) rfl rfl wm_RX6_199 wc_X4_costOf hy_X4_costOf rfl ⟨Nat.le_of_ble_eq_true rfl, Nat.le_of_ble_eq_true rfl⟩ rfl (Nat.le_of_ble_eq_true rfl) dX6_day_145 ?_
  refine zEV.i2l dX6_day_148 ?_
  obtain ⟨q2, hq2, h⟩ := bind_yes h
  refine zEV.callVv (kX2_tell_ (s0) ((Int32.toInt64 q1.1))  q1.2 q2 hq2) (by decide) rfl rfl wm_RX6_105 wc_X2_tell_ hy_X2_tell_ rfl ⟨Nat.le_of_ble_eq_true rfl, Nat.le_of_ble_eq_true rfl⟩ rfl (Nat.le_of_ble_eq_true rfl) dX6_day_149 ?_
  refine zEV.iload_n dX6_day_152 rfl 1 rfl ?_
  have h := Option.some.inj h
  subst h
  exact zEV.iret rfl dX6_day_153
def fX6_day_113 (l2 : Int32) (l3 : Int32) (M : zMM) : Option (Int32 × zMM) :=
  (fX4_set 0 M).bind fun q1 =>
  if l3 = (0 : Int32) then
    fX6_day_137 (l2) ((0 : Int64)) q1
  else
    fX6_day_137 (l2) ((1 : Int64)) q1
set_option maxRecDepth 100000 in
theorem tX6_day_113 (l2 : Int32) (l3 : Int32) (M : zMM) (q : Int32 × zMM) (h : fX6_day_113 l2 l3 M = some q) : zEV iX6_day 0 0 (zZO (some (.inl q.1), q.2)) 113 [(0, .inr (.inr 157)), (2, .inl l2), (3, .inl l3)] [] M := by
  unfold fX6_day_113 at h
  refine zEV.aload_n dX6_day_113 rfl 0 rfl ?_
  refine zEV.gfr rfl inz6 2 (by decide) wf_RX6_22 (by decide) rfl rfl dX6_day_114 ?_
  refine zEV.aload_n dX6_day_117 rfl 0 rfl ?_
  refine zEV.gfr rfl inz6 0 (by decide) wf_RX6_12 (by decide) rfl rfl dX6_day_118 ?_
  obtain ⟨q1, hq1, h⟩ := bind_yes h
  refine zEV.callVv (kX4_set 0 lf_0 M q1 hq1) (by decide) rfl rfl wm_RX6_113 wc_X4_set hy_X4_set rfl ⟨Nat.le_of_ble_eq_true rfl, Nat.le_of_ble_eq_true rfl⟩ rfl (Nat.le_of_ble_eq_true rfl) dX6_day_121 ?_
  refine zEV.aload_n dX6_day_124 rfl 0 rfl ?_
  refine zEV.gfr rfl inz6 8 (by decide) wf_RX6_58 (by decide) rfl rfl dX6_day_125 ?_
  refine zEV.iload_n dX6_day_128 rfl 2 rfl ?_
  refine zEV.if_eq 136 dX6_day_129 (by decide) (fun c2 => ?_) (fun c2 => ?_)
  · rw [if_pos c2] at h
    refine zEV.lconst (v := 0) dX6_day_136 rfl ?_
    exact zEV.perm [0, 1] rfl (tX6_day_137 (l2) ((0 : Int64)) q1 q h)
  · rw [if_neg c2] at h
    refine zEV.lconst (v := 1) dX6_day_132 rfl ?_
    refine zEV.goto 137 dX6_day_133 (by decide) ?_
    exact zEV.perm [0, 1] rfl (tX6_day_137 (l2) ((1 : Int64)) q1 q h)
def fX6_day_95 (l2 : Int32) (l3 : Int32) (M : zMM) : Option (Int32 × zMM) :=
  (fX5_clear  M).bind fun q1 =>
  if l2 ≤ (0 : Int32) then
    fX6_day_113 (l2) (l3) q1
  else
    (fX1_remember  q1).bind fun q3 =>
    fX6_day_113 (l2) (l3) q3
set_option maxRecDepth 100000 in
theorem tX6_day_95 (l2 : Int32) (l3 : Int32) (M : zMM) (q : Int32 × zMM) (h : fX6_day_95 l2 l3 M = some q) : zEV iX6_day 0 0 (zZO (some (.inl q.1), q.2)) 95 [(0, .inr (.inr 157)), (2, .inl l2), (3, .inl l3)] [] M := by
  unfold fX6_day_95 at h
  refine zEV.aload_n dX6_day_95 rfl 0 rfl ?_
  refine zEV.gfr rfl inz6 7 (by decide) wf_RX6_51 (by decide) rfl rfl dX6_day_96 ?_
  obtain ⟨q1, hq1, h⟩ := bind_yes h
  refine zEV.callVv (kX5_clear   M q1 hq1) (by decide) rfl rfl wm_RX6_84 wc_X5_clear hy_X5_clear rfl ⟨Nat.le_of_ble_eq_true rfl, Nat.le_of_ble_eq_true rfl⟩ rfl (Nat.le_of_ble_eq_true rfl) dX6_day_99 ?_
  refine zEV.iload_n dX6_day_102 rfl 1 rfl ?_
  refine zEV.if_le 113 dX6_day_103 (by decide) (fun c2 => ?_) (fun c2 => ?_)
  · rw [if_pos c2] at h
    exact zEV.perm [0, 1, 2] rfl (tX6_day_113 (l2) (l3) q1 q h)
  · rw [if_neg c2] at h
    refine zEV.aload_n dX6_day_106 rfl 0 rfl ?_
    refine zEV.gfr rfl inz6 4 (by decide) wf_RX6_36 (by decide) rfl rfl dX6_day_107 ?_
    obtain ⟨q3, hq3, h⟩ := bind_yes h
    refine zEV.callVv (kX1_remember   q1 q3 hq3) (by decide) rfl rfl wm_RX6_327 wc_X1_remember hy_X1_remember rfl ⟨Nat.le_of_ble_eq_true rfl, Nat.le_of_ble_eq_true rfl⟩ rfl (Nat.le_of_ble_eq_true rfl) dX6_day_110 ?_
    exact zEV.perm [0, 1, 2] rfl (tX6_day_113 (l2) (l3) q3 q h)
def fX6_day_69 (K36 : Int32 → Int32 → Int32 → zMM → Option (Int32 × zMM)) (l2 : Int32) (l3 : Int32) (l4 : Int32) (M : zMM) : Option (Int32 × zMM) :=
  (fX5_signAt (l4) M).bind fun q1 =>
  (fX6_digitsOf (q1.1) q1.2).bind fun q2 =>
  K36 (l2) (l3) ((l4 + (1 + (if 0 < q2.1 then q2.1 else 0)))) q2.2
set_option maxRecDepth 100000 in
theorem tX6_day_69 (K36 : Int32 → Int32 → Int32 → zMM → Option (Int32 × zMM)) (hK36 : ∀ (l2 : Int32) (l3 : Int32) (l4 : Int32) (M : zMM) (q : Int32 × zMM), K36 l2 l3 l4 M = some q → zEV iX6_day 0 0 (zZO (some (.inl q.1), q.2)) 36 [(0, .inr (.inr 157)), (2, .inl l2), (3, .inl l3), (4, .inl l4)] [] M) (l2 : Int32) (l3 : Int32) (l4 : Int32) (M : zMM) (q : Int32 × zMM) (h : fX6_day_69 K36 l2 l3 l4 M = some q) : zEV iX6_day 0 0 (zZO (some (.inl q.1), q.2)) 69 [(0, .inr (.inr 157)), (2, .inl l2), (3, .inl l3), (4, .inl l4)] [] M := by
  unfold fX6_day_69 at h
  refine zEV.iload dX6_day_69 3 rfl ?_
  refine zEV.iconst (v := 1) dX6_day_71 rfl ?_
  refine zEV.iconst (v := 0) dX6_day_72 rfl ?_
  refine zEV.aload_n dX6_day_73 rfl 0 rfl ?_
  refine zEV.gfr rfl inz6 7 (by decide) wf_RX6_51 (by decide) rfl rfl dX6_day_74 ?_
  refine zEV.iload dX6_day_77 3 rfl ?_
  obtain ⟨q1, hq1, h⟩ := bind_yes h
  refine zEV.callVi (kX5_signAt (l4)  M q1 hq1) (by decide) rfl rfl wm_RX6_316 wc_X5_signAt hy_X5_signAt rfl ⟨Nat.le_of_ble_eq_true rfl, Nat.le_of_ble_eq_true rfl⟩ rfl (Nat.le_of_ble_eq_true rfl) dX6_day_79 ?_
  obtain ⟨q2, hq2, h⟩ := bind_yes h
  refine zEV.callSi (kX6_digitsOf (q1.1)  q1.2 q2 hq2) wm_RX6_319 wc_X6_digitsOf hy_X6_digitsOf rfl ⟨Nat.le_of_ble_eq_true rfl, Nat.le_of_ble_eq_true rfl⟩ rfl (Nat.le_of_ble_eq_true rfl) dX6_day_82 ?_
  refine zEV.mmax wm_RX6_322 wj_max_s wj_math_i wj_max_c ⟨Nat.le_of_ble_eq_true rfl, Nat.le_of_ble_eq_true rfl⟩ dX6_day_85 ?_
  refine zEV.iadd dX6_day_88 ?_
  refine zEV.iadd dX6_day_89 ?_
  refine zEV.istore dX6_day_90 (Nat.le_of_ble_eq_true rfl) rfl ?_
  refine zEV.goto 36 dX6_day_92 (by decide) ?_
  exact zEV.perm [1, 2, 3, 0] rfl (hK36 (l2) (l3) ((l4 + (1 + (if 0 < q2.1 then q2.1 else 0)))) q2.2 q h)
def fX6_day_36 : Nat → Int32 → Int32 → Int32 → zMM → Option (Int32 × zMM)
  | 0, _, _, _, _ => none
  | n + 1, l2, l3, l4, M =>
  if (M.1 153 1) ≤ l4 then
    fX6_day_95 (l2) (l3) M
  else
    if l3 = (0 : Int32) then
      (fX6_doAct (l4) M).bind fun q3 =>
      if (0 : Int32) ≤ q3.1 then
        fX6_day_69 (fX6_day_36 n) ((l2 + 1)) (l3) (l4) q3.2
      else
        fX6_day_69 (fX6_day_36 n) (l2) (1) (l4) q3.2
    else
      fX6_day_95 (l2) (l3) M
set_option maxRecDepth 100000 in
theorem tX6_day_36 : ∀ (n : Nat) (l2 : Int32) (l3 : Int32) (l4 : Int32) (M : zMM) (q : Int32 × zMM), fX6_day_36 n l2 l3 l4 M = some q → zEV iX6_day 0 0 (zZO (some (.inl q.1), q.2)) 36 [(0, .inr (.inr 157)), (2, .inl l2), (3, .inl l3), (4, .inl l4)] [] M := by
  intro n
  induction n with
  | zero =>
    intro l2 l3 l4 M q h
    rw [fX6_day_36] at h
    cases h
  | succ n ih =>
    intro l2 l3 l4 M q h
    rw [fX6_day_36] at h
    refine zEV.iload dX6_day_36 3 rfl ?_
    refine zEV.aload_n dX6_day_38 rfl 0 rfl ?_
    refine zEV.gfr rfl inz6 7 (by decide) wf_RX6_51 (by decide) rfl rfl dX6_day_39 ?_
    refine zEV.gfi rfl inz5 1 (by decide) wf_RX6_66 (by decide) rfl rfl dX6_day_42 ?_
    refine zEV.icmp_ge 95 dX6_day_45 (by decide) (fun c1 => ?_) (fun c1 => ?_)
    · rw [if_pos c1] at h
      exact zEV.perm [0, 1, 2] rfl (tX6_day_95 (l2) (l3) M q h)
    · rw [if_neg c1] at h
      refine zEV.iload_n dX6_day_48 rfl 2 rfl ?_
      refine zEV.if_ne 95 dX6_day_49 (by decide) (fun c2 => ?_) (fun c2 => ?_)
      · rw [if_neg c2] at h
        exact zEV.perm [0, 1, 2] rfl (tX6_day_95 (l2) (l3) M q h)
      · rw [if_pos c2] at h
        refine zEV.aload_n dX6_day_52 rfl 0 rfl ?_
        refine zEV.iload dX6_day_53 3 rfl ?_
        obtain ⟨q3, hq3, h⟩ := bind_yes h
        refine zEV.callVi (kX6_doAct (l4)  M q3 hq3) (by decide) rfl rfl wm_RX6_313 wc_X6_doAct hy_X6_doAct rfl ⟨Nat.le_of_ble_eq_true rfl, Nat.le_of_ble_eq_true rfl⟩ rfl (Nat.le_of_ble_eq_true rfl) dX6_day_55 ?_
        refine zEV.if_ge 66 dX6_day_58 (by decide) (fun c4 => ?_) (fun c4 => ?_)
        · rw [if_pos c4] at h
          refine zEV.iinc (v := (l2 + 1)) dX6_day_66 1 rfl rfl (Nat.le_of_ble_eq_true rfl) rfl ?_
          exact zEV.perm [1, 0, 2, 3] rfl (tX6_day_69 (fX6_day_36 n) (fun l2 l3 l4 M9 q9 h9 => ih l2 l3 l4 M9 q9 h9) ((l2 + 1)) (l3) (l4) q3.2 q h)
        · rw [if_neg c4] at h
          refine zEV.iconst (v := 1) dX6_day_61 rfl ?_
          refine zEV.istore_n dX6_day_62 rfl (Nat.le_of_ble_eq_true rfl) rfl ?_
          refine zEV.goto 69 dX6_day_63 (by decide) ?_
          exact zEV.perm [1, 2, 0, 3] rfl (tX6_day_69 (fX6_day_36 n) (fun l2 l3 l4 M9 q9 h9 => ih l2 l3 l4 M9 q9 h9) (l2) (1) (l4) q3.2 q h)
def fX6_day (M : zMM) : Option (Int32 × zMM) :=
  (fX6_faultOfDay  M).bind fun q1 =>
  if (0 : Int32) ≤ q1.1 then
    (fX1_mark 0 q1.2).bind fun q3 =>
    fX6_day_36 zFU (0) (0) (0) q3
  else
    (fX5_clear  q1.2).bind fun q4 =>
    some (q1.1, q4)
set_option maxRecDepth 100000 in
theorem tX6_day_0 (M : zMM) (q : Int32 × zMM) (h : fX6_day  M = some q) : zEV iX6_day 0 0 (zZO (some (.inl q.1), q.2)) 0 [(0, .inr (.inr 157))] [] M := by
  unfold fX6_day at h
  refine zEV.aload_n dX6_day_0 rfl 0 rfl ?_
  obtain ⟨q1, hq1, h⟩ := bind_yes h
  refine zEV.callVi (kX6_faultOfDay   M q1 hq1) (by decide) rfl rfl wm_RX6_310 wc_X6_faultOfDay hy_X6_faultOfDay rfl ⟨Nat.le_of_ble_eq_true rfl, Nat.le_of_ble_eq_true rfl⟩ rfl (Nat.le_of_ble_eq_true rfl) dX6_day_1 ?_
  refine zEV.istore_n dX6_day_4 rfl (Nat.le_of_ble_eq_true rfl) rfl ?_
  refine zEV.iload_n dX6_day_5 rfl 0 rfl ?_
  refine zEV.if_ge 18 dX6_day_6 (by decide) (fun c2 => ?_) (fun c2 => ?_)
  · rw [if_pos c2] at h
    refine zEV.aload_n dX6_day_18 rfl 1 rfl ?_
    refine zEV.gfr rfl inz6 4 (by decide) wf_RX6_36 (by decide) rfl rfl dX6_day_19 ?_
    refine zEV.aload_n dX6_day_22 rfl 1 rfl ?_
    refine zEV.gfr rfl inz6 0 (by decide) wf_RX6_12 (by decide) rfl rfl dX6_day_23 ?_
    obtain ⟨q3, hq3, h⟩ := bind_yes h
    refine zEV.callVv (kX1_mark 0 lf_0 q1.2 q3 hq3) (by decide) rfl rfl wm_RX6_73 wc_X1_mark hy_X1_mark rfl ⟨Nat.le_of_ble_eq_true rfl, Nat.le_of_ble_eq_true rfl⟩ rfl (Nat.le_of_ble_eq_true rfl) dX6_day_26 ?_
    refine zEV.iconst (v := 0) dX6_day_29 rfl ?_
    refine zEV.istore_n dX6_day_30 rfl (Nat.le_of_ble_eq_true rfl) rfl ?_
    refine zEV.iconst (v := 0) dX6_day_31 rfl ?_
    refine zEV.istore_n dX6_day_32 rfl (Nat.le_of_ble_eq_true rfl) rfl ?_
    refine zEV.iconst (v := 0) dX6_day_33 rfl ?_
    refine zEV.istore dX6_day_34 (Nat.le_of_ble_eq_true rfl) rfl ?_
    exact zEV.perm [4, 2, 1, 0] rfl (tX6_day_36 zFU (0) (0) (0) q3 q h)
  · rw [if_neg c2] at h
    refine zEV.aload_n dX6_day_9 rfl 1 rfl ?_
    refine zEV.gfr rfl inz6 7 (by decide) wf_RX6_51 (by decide) rfl rfl dX6_day_10 ?_
    obtain ⟨q4, hq4, h⟩ := bind_yes h
    refine zEV.callVv (kX5_clear   q1.2 q4 hq4) (by decide) rfl rfl wm_RX6_84 wc_X5_clear hy_X5_clear rfl ⟨Nat.le_of_ble_eq_true rfl, Nat.le_of_ble_eq_true rfl⟩ rfl (Nat.le_of_ble_eq_true rfl) dX6_day_13 ?_
    refine zEV.iload_n dX6_day_16 rfl 0 rfl ?_
    have h := Option.some.inj h
    subst h
    exact zEV.iret rfl dX6_day_17
theorem kX6_day (M : zMM) (q : Int32 × zMM) (h : fX6_day M = some q) : zCN yX6_day iX6_day [.inr (.inr 157)] M (some (.inl q.1), q.2) :=
  zCN.of (by decide) rfl rfl (Nat.le_of_ble_eq_true rfl) (zEV.perm [0] rfl (tX6_day_0 M q h))
-- RingedPage.undo
def fX6_undo (M : zMM) : Option (Int32 × zMM) :=
  (fX1_takeBack 0 M).bind fun q1 =>
  if q1.1 = (0 : Int32) then
    some ((-1), q1.2)
  else
    some ((q1.2.1 149 2), q1.2)
set_option maxRecDepth 100000 in
theorem tX6_undo_0 (M : zMM) (q : Int32 × zMM) (h : fX6_undo  M = some q) : zEV iX6_undo 0 0 (zZO (some (.inl q.1), q.2)) 0 [(0, .inr (.inr 157))] [] M := by
  unfold fX6_undo at h
  refine zEV.aload_n dX6_undo_0 rfl 0 rfl ?_
  refine zEV.gfr rfl inz6 4 (by decide) wf_RX6_36 (by decide) rfl rfl dX6_undo_1 ?_
  refine zEV.aload_n dX6_undo_4 rfl 0 rfl ?_
  refine zEV.gfr rfl inz6 0 (by decide) wf_RX6_12 (by decide) rfl rfl dX6_undo_5 ?_
  obtain ⟨q1, hq1, h⟩ := bind_yes h
  refine zEV.callVi (kX1_takeBack 0 lf_0 M q1 hq1) (by decide) rfl rfl wm_RX6_330 wc_X1_takeBack hy_X1_takeBack rfl ⟨Nat.le_of_ble_eq_true rfl, Nat.le_of_ble_eq_true rfl⟩ rfl (Nat.le_of_ble_eq_true rfl) dX6_undo_8 ?_
  refine zEV.if_eq 24 dX6_undo_11 (by decide) (fun c2 => ?_) (fun c2 => ?_)
  · rw [if_pos c2] at h
    refine zEV.iconst (v := (-1)) dX6_undo_24 rfl ?_
    have h := Option.some.inj h
    subst h
    exact zEV.iret rfl dX6_undo_25
  · rw [if_neg c2] at h
    refine zEV.aload_n dX6_undo_14 rfl 0 rfl ?_
    refine zEV.gfr rfl inz6 4 (by decide) wf_RX6_36 (by decide) rfl rfl dX6_undo_15 ?_
    refine zEV.gfi rfl inz1 2 (by decide) wf_RX6_334 (by decide) rfl rfl dX6_undo_18 ?_
    refine zEV.goto 25 dX6_undo_21 (by decide) ?_
    have h := Option.some.inj h
    subst h
    exact zEV.iret rfl dX6_undo_25
theorem kX6_undo (M : zMM) (q : Int32 × zMM) (h : fX6_undo M = some q) : zCN yX6_undo iX6_undo [.inr (.inr 157)] M (some (.inl q.1), q.2) :=
  zCN.of (by decide) rfl rfl (Nat.le_of_ble_eq_true rfl) (zEV.perm [0] rfl (tX6_undo_0 M q h))
-- RingedPage.nextDraw
def fX6_nextDraw (a0 : Int32) (M : zMM) : Option (Int32 × zMM) :=
  some (((a0 * (1103515245)) + 12345), M)
set_option maxRecDepth 100000 in
theorem tX6_nextDraw_0 (a0 : Int32) (M : zMM) (q : Int32 × zMM) (h : fX6_nextDraw a0  M = some q) : zEV iX6_nextDraw 0 0 (zZO (some (.inl q.1), q.2)) 0 [(0, .inl a0)] [] M := by
  unfold fX6_nextDraw at h
  refine zEV.iload_n dX6_nextDraw_0 rfl 0 rfl ?_
  refine zEV.ldcw wk_RX6_395 dX6_nextDraw_1 ?_
  refine zEV.imul dX6_nextDraw_4 ?_
  refine zEV.sipush (v := 12345) dX6_nextDraw_5 rfl ?_
  refine zEV.iadd dX6_nextDraw_8 ?_
  have h := Option.some.inj h
  subst h
  exact zEV.iret rfl dX6_nextDraw_9
theorem kX6_nextDraw (a0 : Int32) (M : zMM) (q : Int32 × zMM) (h : fX6_nextDraw a0 M = some q) : zCN yX6_nextDraw iX6_nextDraw [.inl a0] M (some (.inl q.1), q.2) :=
  zCN.of (by decide) rfl rfl (Nat.le_of_ble_eq_true rfl) (zEV.perm [0] rfl (tX6_nextDraw_0 a0 M q h))
-- RingedPage.drawn
def fX6_drawn (a0 : Int32) (a1 : Int32) (M : zMM) : Option (Int32 × zMM) :=
  if a1 ≤ (0 : Int32) then
    some (0, M)
  else
    if a1 = 0 then none else
    some (((Int32.toUInt32 a0 >>> (Int32.toUInt32 16 &&& Int32.toUInt32 31)).toInt32 - (Int32.toUInt32 a0 >>> (Int32.toUInt32 16 &&& Int32.toUInt32 31)).toInt32 / a1 * a1), M)
set_option maxRecDepth 100000 in
theorem tX6_drawn_0 (a0 : Int32) (a1 : Int32) (M : zMM) (q : Int32 × zMM) (h : fX6_drawn a0 a1  M = some q) : zEV iX6_drawn 0 0 (zZO (some (.inl q.1), q.2)) 0 [(0, .inl a0), (1, .inl a1)] [] M := by
  unfold fX6_drawn at h
  refine zEV.iload_n dX6_drawn_0 rfl 1 rfl ?_
  refine zEV.if_le 13 dX6_drawn_1 (by decide) (fun c1 => ?_) (fun c1 => ?_)
  · rw [if_pos c1] at h
    refine zEV.iconst (v := 0) dX6_drawn_13 rfl ?_
    have h := Option.some.inj h
    subst h
    exact zEV.iret rfl dX6_drawn_14
  · rw [if_neg c1] at h
    refine zEV.iload_n dX6_drawn_4 rfl 0 rfl ?_
    refine zEV.bipush (v := 16) dX6_drawn_5 rfl ?_
    refine zEV.iushr dX6_drawn_7 ?_
    refine zEV.iload_n dX6_drawn_8 rfl 1 rfl ?_
    obtain ⟨g2, h⟩ := ite_no h
    refine zEV.irem dX6_drawn_9 g2 ?_
    refine zEV.goto 14 dX6_drawn_10 (by decide) ?_
    have h := Option.some.inj h
    subst h
    exact zEV.iret rfl dX6_drawn_14
theorem kX6_drawn (a0 : Int32) (a1 : Int32) (M : zMM) (q : Int32 × zMM) (h : fX6_drawn a0 a1 M = some q) : zCN yX6_drawn iX6_drawn [.inl a0, .inl a1] M (some (.inl q.1), q.2) :=
  zCN.of (by decide) rfl rfl (Nat.le_of_ble_eq_true rfl) (zEV.perm [0, 1] rfl (tX6_drawn_0 a0 a1 M q h))
-- RingedPage.years
def fX6_years_29 (a1 : Int32) (a2 : Int32) : Nat → Int32 → Int32 → zMM → Option (Int32 × zMM)
  | 0, _, _, _ => none
  | n + 1, l3, l4, M =>
  if a2 ≤ l4 then
    (fX4_set 10 M).bind fun q2 =>
    (fX4_costOf 10 q2).bind fun q3 =>
    (fX2_tell___ ((Int32.toInt64 q3.1)) ((Int32.toInt64 (q3.2.1 12 0))) ((Int32.toInt64 (q3.2.1 12 1))) ((Int32.toInt64 (q3.2.1 12 2))) q3.2).bind fun q4 =>
    (fX4_pageCount 10 q4).bind fun q5 =>
    some (q5.1, q5.2)
  else
    (fX6_nextDraw (l3) M).bind fun q6 =>
    (fX6_drawn (q6.1) (3) q6.2).bind fun q7 =>
    (fX6_nextDraw (q6.1) q7.2).bind fun q8 =>
    (fX6_drawn (q8.1) (9) q8.2).bind fun q9 =>
    if oob (q7.1) 3 then none else
    (fX0_put 10 (q7.1) ((q9.2.1 12 (Int32.toNatClampNeg q7.1))) ((q9.1 + 1)) q9.2).bind fun q11 =>
    fX6_years_29 a1 a2 n (q8.1) ((l4 + 1)) q11
set_option maxRecDepth 100000 in
theorem tX6_years_29 (a1 : Int32) (a2 : Int32) : ∀ (n : Nat) (l3 : Int32) (l4 : Int32) (M : zMM) (q : Int32 × zMM), fX6_years_29 a1 a2 n l3 l4 M = some q → zEV iX6_years 0 0 (zZO (some (.inl q.1), q.2)) 29 [(0, .inr (.inr 157)), (2, .inl a2), (3, .inl l3), (4, .inl l4)] [] M := by
  intro n
  induction n with
  | zero =>
    intro l3 l4 M q h
    rw [fX6_years_29] at h
    cases h
  | succ n ih =>
    intro l3 l4 M q h
    rw [fX6_years_29] at h
    refine zEV.iload dX6_years_29 3 rfl ?_
    refine zEV.iload_n dX6_years_31 rfl 1 rfl ?_
    refine zEV.icmp_ge 89 dX6_years_32 (by decide) (fun c1 => ?_) (fun c1 => ?_)
    · rw [if_pos c1] at h
      refine zEV.aload_n dX6_years_89 rfl 0 rfl ?_
      refine zEV.gfr rfl inz6 2 (by decide) wf_RX6_22 (by decide) rfl rfl dX6_years_90 ?_
      refine zEV.aload_n dX6_years_93 rfl 0 rfl ?_
      refine zEV.gfr rfl inz6 1 (by decide) wf_RX6_16 (by decide) rfl rfl dX6_years_94 ?_
      obtain ⟨q2, hq2, h⟩ := bind_yes h
      refine zEV.callVv (kX4_set 10 lf_10 M q2 hq2) (by decide) rfl rfl wm_RX6_113 wc_X4_set hy_X4_set rfl ⟨Nat.le_of_ble_eq_true rfl, Nat.le_of_ble_eq_true rfl⟩ rfl (Nat.le_of_ble_eq_true rfl) dX6_years_97 ?_
      refine zEV.aload_n dX6_years_100 rfl 0 rfl ?_
      refine zEV.gfr rfl inz6 8 (by decide) wf_RX6_58 (by decide) rfl rfl dX6_years_101 ?_
      refine zEV.aload_n dX6_years_104 rfl 0 rfl ?_
      refine zEV.gfr rfl inz6 2 (by decide) wf_RX6_22 (by decide) rfl rfl dX6_years_105 ?_
      refine zEV.aload_n dX6_years_108 rfl 0 rfl ?_
      refine zEV.gfr rfl inz6 1 (by decide) wf_RX6_16 (by decide) rfl rfl dX6_years_109 ?_
      obtain ⟨q3, hq3, h⟩ := bind_yes h
      refine zEV.callVi (kX4_costOf 10 lf_10 q2 q3 hq3) (by decide) rfl rfl wm_RX6_199 wc_X4_costOf hy_X4_costOf rfl ⟨Nat.le_of_ble_eq_true rfl, Nat.le_of_ble_eq_true rfl⟩ rfl (Nat.le_of_ble_eq_true rfl) dX6_years_112 ?_
      refine zEV.i2l dX6_years_115 ?_
      refine zEV.aload_n dX6_years_116 rfl 0 rfl ?_
      refine zEV.gfr rfl inz6 1 (by decide) wf_RX6_16 (by decide) rfl rfl dX6_years_117 ?_
      refine zEV.gfr rfl inz0 8 (by decide) wf_RX6_231 (by decide) rfl rfl dX6_years_120 ?_
      refine zEV.iconst (v := 0) dX6_years_123 rfl ?_
      refine zEV.ialdL (j := 0) (by decide) rfl (by decide) (by decide) dX6_years_124 ?_
      refine zEV.i2l dX6_years_125 ?_
      refine zEV.aload_n dX6_years_126 rfl 0 rfl ?_
      refine zEV.gfr rfl inz6 1 (by decide) wf_RX6_16 (by decide) rfl rfl dX6_years_127 ?_
      refine zEV.gfr rfl inz0 8 (by decide) wf_RX6_231 (by decide) rfl rfl dX6_years_130 ?_
      refine zEV.iconst (v := 1) dX6_years_133 rfl ?_
      refine zEV.ialdL (j := 1) (by decide) rfl (by decide) (by decide) dX6_years_134 ?_
      refine zEV.i2l dX6_years_135 ?_
      refine zEV.aload_n dX6_years_136 rfl 0 rfl ?_
      refine zEV.gfr rfl inz6 1 (by decide) wf_RX6_16 (by decide) rfl rfl dX6_years_137 ?_
      refine zEV.gfr rfl inz0 8 (by decide) wf_RX6_231 (by decide) rfl rfl dX6_years_140 ?_
      refine zEV.iconst (v := 2) dX6_years_143 rfl ?_
      refine zEV.ialdL (j := 2) (by decide) rfl (by decide) (by decide) dX6_years_144 ?_
      refine zEV.i2l dX6_years_145 ?_
      obtain ⟨q4, hq4, h⟩ := bind_yes h
      refine zEV.callVv (kX2_tell___ ((Int32.toInt64 q3.1)) ((Int32.toInt64 (q3.2.1 12 0))) ((Int32.toInt64 (q3.2.1 12 1))) ((Int32.toInt64 (q3.2.1 12 2)))  q3.2 q4 hq4) (by decide) rfl rfl wm_RX6_149 wc_X2_tell___ hy_X2_tell___ rfl ⟨Nat.le_of_ble_eq_true rfl, Nat.le_of_ble_eq_true rfl⟩ rfl (Nat.le_of_ble_eq_true rfl) dX6_years_146 ?_
      refine zEV.aload_n dX6_years_149 rfl 0 rfl ?_
      refine zEV.gfr rfl inz6 2 (by decide) wf_RX6_22 (by decide) rfl rfl dX6_years_150 ?_
      refine zEV.aload_n dX6_years_153 rfl 0 rfl ?_
      refine zEV.gfr rfl inz6 1 (by decide) wf_RX6_16 (by decide) rfl rfl dX6_years_154 ?_
      obtain ⟨q5, hq5, h⟩ := bind_yes h
      refine zEV.callVi (kX4_pageCount 10 lf_10 q4 q5 hq5) (by decide) rfl rfl wm_RX6_116 wc_X4_pageCount hy_X4_pageCount rfl ⟨Nat.le_of_ble_eq_true rfl, Nat.le_of_ble_eq_true rfl⟩ rfl (Nat.le_of_ble_eq_true rfl) dX6_years_157 ?_
      have h := Option.some.inj h
      subst h
      exact zEV.iret rfl dX6_years_160
    · rw [if_neg c1] at h
      refine zEV.iload_n dX6_years_35 rfl 2 rfl ?_
      obtain ⟨q6, hq6, h⟩ := bind_yes h
      refine zEV.callSi (kX6_nextDraw (l3)  M q6 hq6) wm_RX6_335 wc_X6_nextDraw hy_X6_nextDraw rfl ⟨Nat.le_of_ble_eq_true rfl, Nat.le_of_ble_eq_true rfl⟩ rfl (Nat.le_of_ble_eq_true rfl) dX6_years_36 ?_
      refine zEV.istore_n dX6_years_39 rfl (Nat.le_of_ble_eq_true rfl) rfl ?_
      refine zEV.iload_n dX6_years_40 rfl 0 rfl ?_
      refine zEV.iconst (v := 3) dX6_years_41 rfl ?_
      obtain ⟨q7, hq7, h⟩ := bind_yes h
      refine zEV.callSi (kX6_drawn (q6.1) (3)  q6.2 q7 hq7) wm_RX6_338 wc_X6_drawn hy_X6_drawn rfl ⟨Nat.le_of_ble_eq_true rfl, Nat.le_of_ble_eq_true rfl⟩ rfl (Nat.le_of_ble_eq_true rfl) dX6_years_42 ?_
      refine zEV.istore dX6_years_45 (Nat.le_of_ble_eq_true rfl) rfl ?_
      refine zEV.iload_n dX6_years_47 rfl 1 rfl ?_
      obtain ⟨q8, hq8, h⟩ := bind_yes h
      refine zEV.callSi (kX6_nextDraw (q6.1)  q7.2 q8 hq8) wm_RX6_335 wc_X6_nextDraw hy_X6_nextDraw rfl ⟨Nat.le_of_ble_eq_true rfl, Nat.le_of_ble_eq_true rfl⟩ rfl (Nat.le_of_ble_eq_true rfl) dX6_years_48 ?_
      refine zEV.istore_n dX6_years_51 rfl (Nat.le_of_ble_eq_true rfl) rfl ?_
      refine zEV.iload_n dX6_years_52 rfl 0 rfl ?_
      refine zEV.bipush (v := 9) dX6_years_53 rfl ?_
      obtain ⟨q9, hq9, h⟩ := bind_yes h
      refine zEV.callSi (kX6_drawn (q8.1) (9)  q8.2 q9 hq9) wm_RX6_338 wc_X6_drawn hy_X6_drawn rfl ⟨Nat.le_of_ble_eq_true rfl, Nat.le_of_ble_eq_true rfl⟩ rfl (Nat.le_of_ble_eq_true rfl) dX6_years_55 ?_
      refine zEV.iconst (v := 1) dX6_years_58 rfl ?_
      refine zEV.iadd dX6_years_59 ?_
      refine zEV.istore dX6_years_60 (Nat.le_of_ble_eq_true rfl) rfl ?_
      refine zEV.aload_n dX6_years_62 rfl 3 rfl ?_
      refine zEV.gfr rfl inz6 1 (by decide) wf_RX6_16 (by decide) rfl rfl dX6_years_63 ?_
      refine zEV.iload dX6_years_66 2 rfl ?_
      refine zEV.aload_n dX6_years_68 rfl 3 rfl ?_
      refine zEV.gfr rfl inz6 1 (by decide) wf_RX6_16 (by decide) rfl rfl dX6_years_69 ?_
      refine zEV.gfr rfl inz0 8 (by decide) wf_RX6_231 (by decide) rfl rfl dX6_years_72 ?_
      refine zEV.iload dX6_years_75 2 rfl ?_
      obtain ⟨g10, h⟩ := ite_no h
      refine zEV.iald (by decide) rfl g10 dX6_years_77 ?_
      refine zEV.iload dX6_years_78 0 rfl ?_
      obtain ⟨q11, hq11, h⟩ := bind_yes h
      refine zEV.callVv (kX0_put 10 (q7.1) ((q9.2.1 12 (Int32.toNatClampNeg q7.1))) ((q9.1 + 1)) lf_10 q9.2 q11 hq11) (by decide) rfl rfl wm_RX6_290 wc_X0_put hy_X0_put rfl ⟨Nat.le_of_ble_eq_true rfl, Nat.le_of_ble_eq_true rfl⟩ rfl (Nat.le_of_ble_eq_true rfl) dX6_years_80 ?_
      refine zEV.iinc (v := (l4 + 1)) dX6_years_83 5 rfl rfl (Nat.le_of_ble_eq_true rfl) rfl ?_
      refine zEV.goto 29 dX6_years_86 (by decide) ?_
      exact zEV.perm [4, 5, 2, 0] rfl (ih (q8.1) ((l4 + 1)) q11 q h)
def fX6_years (a1 : Int32) (a2 : Int32) (M : zMM) : Option (Int32 × zMM) :=
  if a2 < 1 then
    some ((-1), M)
  else
    if a2 ≤ 30 then
      (fX0_copy 10 0 M).bind fun q3 =>
      fX6_years_29 a1 a2 zFU (a1) (0) q3
    else
      some ((-1), M)
set_option maxRecDepth 100000 in
theorem tX6_years_0 (a1 : Int32) (a2 : Int32) (M : zMM) (q : Int32 × zMM) (h : fX6_years a1 a2  M = some q) : zEV iX6_years 0 0 (zZO (some (.inl q.1), q.2)) 0 [(0, .inr (.inr 157)), (1, .inl a1), (2, .inl a2)] [] M := by
  unfold fX6_years at h
  refine zEV.iload_n dX6_years_0 rfl 2 rfl ?_
  refine zEV.iconst (v := 1) dX6_years_1 rfl ?_
  refine zEV.icmp_lt 11 dX6_years_2 (by decide) (fun c1 => ?_) (fun c1 => ?_)
  · rw [if_pos c1] at h
    refine zEV.iconst (v := (-1)) dX6_years_11 rfl ?_
    have h := Option.some.inj h
    subst h
    exact zEV.iret rfl dX6_years_12
  · rw [if_neg c1] at h
    refine zEV.iload_n dX6_years_5 rfl 2 rfl ?_
    refine zEV.bipush (v := 30) dX6_years_6 rfl ?_
    refine zEV.icmp_le 13 dX6_years_8 (by decide) (fun c2 => ?_) (fun c2 => ?_)
    · rw [if_pos c2] at h
      refine zEV.aload_n dX6_years_13 rfl 0 rfl ?_
      refine zEV.gfr rfl inz6 1 (by decide) wf_RX6_16 (by decide) rfl rfl dX6_years_14 ?_
      refine zEV.aload_n dX6_years_17 rfl 0 rfl ?_
      refine zEV.gfr rfl inz6 0 (by decide) wf_RX6_12 (by decide) rfl rfl dX6_years_18 ?_
      obtain ⟨q3, hq3, h⟩ := bind_yes h
      refine zEV.callVv (kX0_copy 10 0 lf_10 lf_0 M q3 hq3) (by decide) rfl rfl wm_RX6_240 wc_X0_copy hy_X0_copy rfl ⟨Nat.le_of_ble_eq_true rfl, Nat.le_of_ble_eq_true rfl⟩ rfl (Nat.le_of_ble_eq_true rfl) dX6_years_21 ?_
      refine zEV.iload_n dX6_years_24 rfl 1 rfl ?_
      refine zEV.istore_n dX6_years_25 rfl (Nat.le_of_ble_eq_true rfl) rfl ?_
      refine zEV.iconst (v := 0) dX6_years_26 rfl ?_
      refine zEV.istore dX6_years_27 (Nat.le_of_ble_eq_true rfl) rfl ?_
      exact zEV.perm [2, 4, 1, 0] rfl (tX6_years_29 a1 a2 zFU (a1) (0) q3 q h)
    · rw [if_neg c2] at h
      refine zEV.iconst (v := (-1)) dX6_years_11 rfl ?_
      have h := Option.some.inj h
      subst h
      exact zEV.iret rfl dX6_years_12
theorem kX6_years (a1 : Int32) (a2 : Int32) (M : zMM) (q : Int32 × zMM) (h : fX6_years a1 a2 M = some q) : zCN yX6_years iX6_years [.inr (.inr 157), .inl a1, .inl a2] M (some (.inl q.1), q.2) :=
  zCN.of (by decide) rfl rfl (Nat.le_of_ble_eq_true rfl) (zEV.perm [0, 1, 2] rfl (tX6_years_0 a1 a2 M q h))
-- RingedPage.keep
def fX6_keep (a1 : Int32) (M : zMM) : Option (Int32 × zMM) :=
  if a1 < (0 : Int32) then
    some (0, M)
  else
    if a1 < 2 then
      if oob (a1) 2 then none else
      (fX0_copy (20 + 10 * Int32.toNatClampNeg a1) 0 M).bind fun q4 =>
      some (1, (wr q4 152 (Int32.toNatClampNeg a1) (vp_nar .boolean 1)))
    else
      some (0, M)
set_option maxRecDepth 100000 in
theorem tX6_keep_0 (a1 : Int32) (M : zMM) (q : Int32 × zMM) (h : fX6_keep a1  M = some q) : zEV iX6_keep 0 0 (zZO (some (.inl q.1), q.2)) 0 [(0, .inr (.inr 157)), (1, .inl a1)] [] M := by
  unfold fX6_keep at h
  refine zEV.iload_n dX6_keep_0 rfl 1 rfl ?_
  refine zEV.if_lt 9 dX6_keep_1 (by decide) (fun c1 => ?_) (fun c1 => ?_)
  · rw [if_pos c1] at h
    refine zEV.iconst (v := 0) dX6_keep_9 rfl ?_
    have h := Option.some.inj h
    subst h
    exact zEV.zret rfl (Or.inl rfl) dX6_keep_10
  · rw [if_neg c1] at h
    refine zEV.iload_n dX6_keep_4 rfl 1 rfl ?_
    refine zEV.iconst (v := 2) dX6_keep_5 rfl ?_
    refine zEV.icmp_lt 11 dX6_keep_6 (by decide) (fun c2 => ?_) (fun c2 => ?_)
    · rw [if_pos c2] at h
      refine zEV.aload_n dX6_keep_11 rfl 0 rfl ?_
      refine zEV.gfr rfl inz6 5 (by decide) wf_RX6_40 (by decide) rfl rfl dX6_keep_12 ?_
      refine zEV.iload_n dX6_keep_15 rfl 1 rfl ?_
      obtain ⟨g3, h⟩ := ite_no h
      refine zEV.aald (by decide) (by decide) rfl g3 dX6_keep_16 ?_
      refine zEV.aload_n dX6_keep_17 rfl 0 rfl ?_
      refine zEV.gfr rfl inz6 0 (by decide) wf_RX6_12 (by decide) rfl rfl dX6_keep_18 ?_
      obtain ⟨q4, hq4, h⟩ := bind_yes h
      refine zEV.callVv (kX0_copy (20 + 10 * Int32.toNatClampNeg a1) 0 (lf_arr20 g3) lf_0 M q4 hq4) (lf_lt (lf_arr20 g3) 0 (by decide)) (lf_shp (lf_arr20 g3) 0 (by decide)) rfl wm_RX6_240 wc_X0_copy hy_X0_copy rfl ⟨Nat.le_of_ble_eq_true rfl, Nat.le_of_ble_eq_true rfl⟩ rfl (Nat.le_of_ble_eq_true rfl) dX6_keep_21 ?_
      refine zEV.aload_n dX6_keep_24 rfl 0 rfl ?_
      refine zEV.gfr rfl inz6 6 (by decide) wf_RX6_44 (by decide) rfl rfl dX6_keep_25 ?_
      refine zEV.iload_n dX6_keep_28 rfl 1 rfl ?_
      refine zEV.iconst (v := 1) dX6_keep_29 rfl ?_
      refine zEV.zast (by decide) rfl g3 dX6_keep_30 ?_
      refine zEV.iconst (v := 1) dX6_keep_31 rfl ?_
      have h := Option.some.inj h
      subst h
      exact zEV.zret rfl (Or.inr rfl) dX6_keep_32
    · rw [if_neg c2] at h
      refine zEV.iconst (v := 0) dX6_keep_9 rfl ?_
      have h := Option.some.inj h
      subst h
      exact zEV.zret rfl (Or.inl rfl) dX6_keep_10
theorem kX6_keep (a1 : Int32) (M : zMM) (q : Int32 × zMM) (h : fX6_keep a1 M = some q) : zCN yX6_keep iX6_keep [.inr (.inr 157), .inl a1] M (some (.inl q.1), q.2) :=
  zCN.of (by decide) rfl rfl (Nat.le_of_ble_eq_true rfl) (zEV.perm [0, 1] rfl (tX6_keep_0 a1 M q h))
-- RingedPage.again
def fX6_again (a1 : Int32) (M : zMM) : Option (Int32 × zMM) :=
  if a1 < (0 : Int32) then
    some (0, M)
  else
    if (2 : Int32) ≤ a1 then
      some (0, M)
    else
      if oob (a1) 2 then none else
      if (M.1 152 (Int32.toNatClampNeg a1)) = (0 : Int32) then
        some (0, M)
      else
        (fX0_copy 0 (20 + 10 * Int32.toNatClampNeg a1) M).bind fun q5 =>
        (fX1_forget  q5).bind fun q6 =>
        some (1, q6)
set_option maxRecDepth 100000 in
theorem tX6_again_0 (a1 : Int32) (M : zMM) (q : Int32 × zMM) (h : fX6_again a1  M = some q) : zEV iX6_again 0 0 (zZO (some (.inl q.1), q.2)) 0 [(0, .inr (.inr 157)), (1, .inl a1)] [] M := by
  unfold fX6_again at h
  refine zEV.iload_n dX6_again_0 rfl 1 rfl ?_
  refine zEV.if_lt 18 dX6_again_1 (by decide) (fun c1 => ?_) (fun c1 => ?_)
  · rw [if_pos c1] at h
    refine zEV.iconst (v := 0) dX6_again_18 rfl ?_
    have h := Option.some.inj h
    subst h
    exact zEV.zret rfl (Or.inl rfl) dX6_again_19
  · rw [if_neg c1] at h
    refine zEV.iload_n dX6_again_4 rfl 1 rfl ?_
    refine zEV.iconst (v := 2) dX6_again_5 rfl ?_
    refine zEV.icmp_ge 18 dX6_again_6 (by decide) (fun c2 => ?_) (fun c2 => ?_)
    · rw [if_pos c2] at h
      refine zEV.iconst (v := 0) dX6_again_18 rfl ?_
      have h := Option.some.inj h
      subst h
      exact zEV.zret rfl (Or.inl rfl) dX6_again_19
    · rw [if_neg c2] at h
      refine zEV.aload_n dX6_again_9 rfl 0 rfl ?_
      refine zEV.gfr rfl inz6 6 (by decide) wf_RX6_44 (by decide) rfl rfl dX6_again_10 ?_
      refine zEV.iload_n dX6_again_13 rfl 1 rfl ?_
      obtain ⟨g3, h⟩ := ite_no h
      refine zEV.zald (by decide) rfl g3 dX6_again_14 ?_
      refine zEV.if_ne 20 dX6_again_15 (by decide) (fun c4 => ?_) (fun c4 => ?_)
      · rw [if_neg c4] at h
        refine zEV.aload_n dX6_again_20 rfl 0 rfl ?_
        refine zEV.gfr rfl inz6 0 (by decide) wf_RX6_12 (by decide) rfl rfl dX6_again_21 ?_
        refine zEV.aload_n dX6_again_24 rfl 0 rfl ?_
        refine zEV.gfr rfl inz6 5 (by decide) wf_RX6_40 (by decide) rfl rfl dX6_again_25 ?_
        refine zEV.iload_n dX6_again_28 rfl 1 rfl ?_
        refine zEV.aald (by decide) (by decide) rfl g3 dX6_again_29 ?_
        obtain ⟨q5, hq5, h⟩ := bind_yes h
        refine zEV.callVv (kX0_copy 0 (20 + 10 * Int32.toNatClampNeg a1) lf_0 (lf_arr20 g3) M q5 hq5) (by decide) rfl rfl wm_RX6_240 wc_X0_copy hy_X0_copy rfl ⟨Nat.le_of_ble_eq_true rfl, Nat.le_of_ble_eq_true rfl⟩ rfl (Nat.le_of_ble_eq_true rfl) dX6_again_30 ?_
        refine zEV.aload_n dX6_again_33 rfl 0 rfl ?_
        refine zEV.gfr rfl inz6 4 (by decide) wf_RX6_36 (by decide) rfl rfl dX6_again_34 ?_
        obtain ⟨q6, hq6, h⟩ := bind_yes h
        refine zEV.callVv (kX1_forget   q5 q6 hq6) (by decide) rfl rfl wm_RX6_341 wc_X1_forget hy_X1_forget rfl ⟨Nat.le_of_ble_eq_true rfl, Nat.le_of_ble_eq_true rfl⟩ rfl (Nat.le_of_ble_eq_true rfl) dX6_again_37 ?_
        refine zEV.iconst (v := 1) dX6_again_40 rfl ?_
        have h := Option.some.inj h
        subst h
        exact zEV.zret rfl (Or.inr rfl) dX6_again_41
      · rw [if_pos c4] at h
        refine zEV.iconst (v := 0) dX6_again_18 rfl ?_
        have h := Option.some.inj h
        subst h
        exact zEV.zret rfl (Or.inl rfl) dX6_again_19
theorem kX6_again (a1 : Int32) (M : zMM) (q : Int32 × zMM) (h : fX6_again a1 M = some q) : zCN yX6_again iX6_again [.inr (.inr 157), .inl a1] M (some (.inl q.1), q.2) :=
  zCN.of (by decide) rfl rfl (Nat.le_of_ble_eq_true rfl) (zEV.perm [0, 1] rfl (tX6_again_0 a1 M q h))
-- RingedPage.count
def fX6_count_120 (a1 : Int32) (M : zMM) : Option (Int32 × zMM) :=
  if oob ((a1 - 5)) 3 then none else
  some ((M.1 2 (Int32.toNatClampNeg (a1 - 5))), M)
set_option maxRecDepth 100000 in
theorem tX6_count_120 (a1 : Int32) (M : zMM) (q : Int32 × zMM) (h : fX6_count_120 a1  M = some q) : zEV iX6_count 0 0 (zZO (some (.inl q.1), q.2)) 120 [(0, .inr (.inr 157)), (1, .inl a1)] [] M := by
  unfold fX6_count_120 at h
  refine zEV.aload_n dX6_count_120 rfl 0 rfl ?_
  refine zEV.gfr rfl inz6 0 (by decide) wf_RX6_12 (by decide) rfl rfl dX6_count_121 ?_
  refine zEV.gfr rfl inz0 8 (by decide) wf_RX6_231 (by decide) rfl rfl dX6_count_124 ?_
  refine zEV.iload_n dX6_count_127 rfl 1 rfl ?_
  refine zEV.iconst (v := 5) dX6_count_128 rfl ?_
  refine zEV.isub dX6_count_129 ?_
  obtain ⟨g1, h⟩ := ite_no h
  refine zEV.iald (by decide) rfl g1 dX6_count_130 ?_
  have h := Option.some.inj h
  subst h
  exact zEV.iret rfl dX6_count_131
def fX6_count_172 (a1 : Int32) (M : zMM) : Option (Int32 × zMM) :=
  if oob ((a1 - 13)) 3 then none else
  some ((M.1 1 (Int32.toNatClampNeg (a1 - 13))), M)
set_option maxRecDepth 100000 in
theorem tX6_count_172 (a1 : Int32) (M : zMM) (q : Int32 × zMM) (h : fX6_count_172 a1  M = some q) : zEV iX6_count 0 0 (zZO (some (.inl q.1), q.2)) 172 [(0, .inr (.inr 157)), (1, .inl a1)] [] M := by
  unfold fX6_count_172 at h
  refine zEV.aload_n dX6_count_172 rfl 0 rfl ?_
  refine zEV.gfr rfl inz6 0 (by decide) wf_RX6_12 (by decide) rfl rfl dX6_count_173 ?_
  refine zEV.gfr rfl inz0 7 (by decide) wf_RX6_297 (by decide) rfl rfl dX6_count_176 ?_
  refine zEV.iload_n dX6_count_179 rfl 1 rfl ?_
  refine zEV.bipush (v := 13) dX6_count_180 rfl ?_
  refine zEV.isub dX6_count_182 ?_
  obtain ⟨g1, h⟩ := ite_no h
  refine zEV.iald (by decide) rfl g1 dX6_count_183 ?_
  have h := Option.some.inj h
  subst h
  exact zEV.iret rfl dX6_count_184
def fX6_count (a1 : Int32) (M : zMM) : Option (Int32 × zMM) :=
  if a1 = (0 : Int32) then
    some ((M.1 0 0), M)
  else
    if a1 = (1 : Int32) then
      some ((M.1 0 1), M)
    else
      if a1 = (2 : Int32) then
        some ((M.1 0 3), M)
      else
        if a1 = (3 : Int32) then
          some ((M.1 0 4), M)
        else
          if a1 = (4 : Int32) then
            some ((M.1 0 5), M)
          else
            if a1 = (5 : Int32) then
              fX6_count_120 a1 M
            else
              if a1 = (6 : Int32) then
                fX6_count_120 a1 M
              else
                if a1 = (7 : Int32) then
                  fX6_count_120 a1 M
                else
                  if a1 = (8 : Int32) then
                    some ((M.1 0 6), M)
                  else
                    if a1 = (9 : Int32) then
                      some ((M.1 149 2), M)
                    else
                      if a1 = (10 : Int32) then
                        some ((M.1 155 1), M)
                      else
                        if a1 = (11 : Int32) then
                          some ((M.1 153 1), M)
                        else
                          if a1 = (12 : Int32) then
                            some ((M.1 0 2), M)
                          else
                            if a1 = (13 : Int32) then
                              fX6_count_172 a1 M
                            else
                              if a1 = (14 : Int32) then
                                fX6_count_172 a1 M
                              else
                                if a1 = (15 : Int32) then
                                  fX6_count_172 a1 M
                                else
                                  some ((-1), M)
set_option maxRecDepth 100000 in
theorem tX6_count_0 (a1 : Int32) (M : zMM) (q : Int32 × zMM) (h : fX6_count a1  M = some q) : zEV iX6_count 0 0 (zZO (some (.inl q.1), q.2)) 0 [(0, .inr (.inr 157)), (1, .inl a1)] [] M := by
  unfold fX6_count at h
  refine zEV.iload_n dX6_count_0 rfl 1 rfl ?_
  by_cases c1_0 : a1 = (0 : Int32)
  · rw [if_pos c1_0] at h
    refine zEV.tabIn 80 dX6_count_1 (0) c1_0 (by decide) (by decide) rfl (by decide) ?_
    refine zEV.aload_n dX6_count_80 rfl 0 rfl ?_
    refine zEV.gfr rfl inz6 0 (by decide) wf_RX6_12 (by decide) rfl rfl dX6_count_81 ?_
    refine zEV.gfi rfl inz0 0 (by decide) wf_RX6_168 (by decide) rfl rfl dX6_count_84 ?_
    have h := Option.some.inj h
    subst h
    exact zEV.iret rfl dX6_count_87
  · rw [if_neg c1_0] at h
    by_cases c1_1 : a1 = (1 : Int32)
    · rw [if_pos c1_1] at h
      refine zEV.tabIn 88 dX6_count_1 (1) c1_1 (by decide) (by decide) rfl (by decide) ?_
      refine zEV.aload_n dX6_count_88 rfl 0 rfl ?_
      refine zEV.gfr rfl inz6 0 (by decide) wf_RX6_12 (by decide) rfl rfl dX6_count_89 ?_
      refine zEV.gfi rfl inz0 1 (by decide) wf_RX6_123 (by decide) rfl rfl dX6_count_92 ?_
      have h := Option.some.inj h
      subst h
      exact zEV.iret rfl dX6_count_95
    · rw [if_neg c1_1] at h
      by_cases c1_2 : a1 = (2 : Int32)
      · rw [if_pos c1_2] at h
        refine zEV.tabIn 96 dX6_count_1 (2) c1_2 (by decide) (by decide) rfl (by decide) ?_
        refine zEV.aload_n dX6_count_96 rfl 0 rfl ?_
        refine zEV.gfr rfl inz6 0 (by decide) wf_RX6_12 (by decide) rfl rfl dX6_count_97 ?_
        refine zEV.gfi rfl inz0 3 (by decide) wf_RX6_344 (by decide) rfl rfl dX6_count_100 ?_
        have h := Option.some.inj h
        subst h
        exact zEV.iret rfl dX6_count_103
      · rw [if_neg c1_2] at h
        by_cases c1_3 : a1 = (3 : Int32)
        · rw [if_pos c1_3] at h
          refine zEV.tabIn 104 dX6_count_1 (3) c1_3 (by decide) (by decide) rfl (by decide) ?_
          refine zEV.aload_n dX6_count_104 rfl 0 rfl ?_
          refine zEV.gfr rfl inz6 0 (by decide) wf_RX6_12 (by decide) rfl rfl dX6_count_105 ?_
          refine zEV.gfi rfl inz0 4 (by decide) wf_RX6_345 (by decide) rfl rfl dX6_count_108 ?_
          have h := Option.some.inj h
          subst h
          exact zEV.iret rfl dX6_count_111
        · rw [if_neg c1_3] at h
          by_cases c1_4 : a1 = (4 : Int32)
          · rw [if_pos c1_4] at h
            refine zEV.tabIn 112 dX6_count_1 (4) c1_4 (by decide) (by decide) rfl (by decide) ?_
            refine zEV.aload_n dX6_count_112 rfl 0 rfl ?_
            refine zEV.gfr rfl inz6 0 (by decide) wf_RX6_12 (by decide) rfl rfl dX6_count_113 ?_
            refine zEV.gfi rfl inz0 5 (by decide) wf_RX6_346 (by decide) rfl rfl dX6_count_116 ?_
            have h := Option.some.inj h
            subst h
            exact zEV.iret rfl dX6_count_119
          · rw [if_neg c1_4] at h
            by_cases c1_5 : a1 = (5 : Int32)
            · rw [if_pos c1_5] at h
              refine zEV.tabIn 120 dX6_count_1 (5) c1_5 (by decide) (by decide) rfl (by decide) ?_
              exact zEV.perm [0, 1] rfl (tX6_count_120 a1 M q h)
            · rw [if_neg c1_5] at h
              by_cases c1_6 : a1 = (6 : Int32)
              · rw [if_pos c1_6] at h
                refine zEV.tabIn 120 dX6_count_1 (6) c1_6 (by decide) (by decide) rfl (by decide) ?_
                exact zEV.perm [0, 1] rfl (tX6_count_120 a1 M q h)
              · rw [if_neg c1_6] at h
                by_cases c1_7 : a1 = (7 : Int32)
                · rw [if_pos c1_7] at h
                  refine zEV.tabIn 120 dX6_count_1 (7) c1_7 (by decide) (by decide) rfl (by decide) ?_
                  exact zEV.perm [0, 1] rfl (tX6_count_120 a1 M q h)
                · rw [if_neg c1_7] at h
                  by_cases c1_8 : a1 = (8 : Int32)
                  · rw [if_pos c1_8] at h
                    refine zEV.tabIn 132 dX6_count_1 (8) c1_8 (by decide) (by decide) rfl (by decide) ?_
                    refine zEV.aload_n dX6_count_132 rfl 0 rfl ?_
                    refine zEV.gfr rfl inz6 0 (by decide) wf_RX6_12 (by decide) rfl rfl dX6_count_133 ?_
                    refine zEV.gfi rfl inz0 6 (by decide) wf_RX6_213 (by decide) rfl rfl dX6_count_136 ?_
                    have h := Option.some.inj h
                    subst h
                    exact zEV.iret rfl dX6_count_139
                  · rw [if_neg c1_8] at h
                    by_cases c1_9 : a1 = (9 : Int32)
                    · rw [if_pos c1_9] at h
                      refine zEV.tabIn 140 dX6_count_1 (9) c1_9 (by decide) (by decide) rfl (by decide) ?_
                      refine zEV.aload_n dX6_count_140 rfl 0 rfl ?_
                      refine zEV.gfr rfl inz6 4 (by decide) wf_RX6_36 (by decide) rfl rfl dX6_count_141 ?_
                      refine zEV.gfi rfl inz1 2 (by decide) wf_RX6_334 (by decide) rfl rfl dX6_count_144 ?_
                      have h := Option.some.inj h
                      subst h
                      exact zEV.iret rfl dX6_count_147
                    · rw [if_neg c1_9] at h
                      by_cases c1_10 : a1 = (10 : Int32)
                      · rw [if_pos c1_10] at h
                        refine zEV.tabIn 148 dX6_count_1 (10) c1_10 (by decide) (by decide) rfl (by decide) ?_
                        refine zEV.aload_n dX6_count_148 rfl 0 rfl ?_
                        refine zEV.gfr rfl inz6 8 (by decide) wf_RX6_58 (by decide) rfl rfl dX6_count_149 ?_
                        refine zEV.gfi rfl inz2 1 (by decide) wf_RX6_347 (by decide) rfl rfl dX6_count_152 ?_
                        have h := Option.some.inj h
                        subst h
                        exact zEV.iret rfl dX6_count_155
                      · rw [if_neg c1_10] at h
                        by_cases c1_11 : a1 = (11 : Int32)
                        · rw [if_pos c1_11] at h
                          refine zEV.tabIn 156 dX6_count_1 (11) c1_11 (by decide) (by decide) rfl (by decide) ?_
                          refine zEV.aload_n dX6_count_156 rfl 0 rfl ?_
                          refine zEV.gfr rfl inz6 7 (by decide) wf_RX6_51 (by decide) rfl rfl dX6_count_157 ?_
                          refine zEV.gfi rfl inz5 1 (by decide) wf_RX6_66 (by decide) rfl rfl dX6_count_160 ?_
                          have h := Option.some.inj h
                          subst h
                          exact zEV.iret rfl dX6_count_163
                        · rw [if_neg c1_11] at h
                          by_cases c1_12 : a1 = (12 : Int32)
                          · rw [if_pos c1_12] at h
                            refine zEV.tabIn 164 dX6_count_1 (12) c1_12 (by decide) (by decide) rfl (by decide) ?_
                            refine zEV.aload_n dX6_count_164 rfl 0 rfl ?_
                            refine zEV.gfr rfl inz6 0 (by decide) wf_RX6_12 (by decide) rfl rfl dX6_count_165 ?_
                            refine zEV.gfi rfl inz0 2 (by decide) wf_RX6_348 (by decide) rfl rfl dX6_count_168 ?_
                            have h := Option.some.inj h
                            subst h
                            exact zEV.iret rfl dX6_count_171
                          · rw [if_neg c1_12] at h
                            by_cases c1_13 : a1 = (13 : Int32)
                            · rw [if_pos c1_13] at h
                              refine zEV.tabIn 172 dX6_count_1 (13) c1_13 (by decide) (by decide) rfl (by decide) ?_
                              exact zEV.perm [0, 1] rfl (tX6_count_172 a1 M q h)
                            · rw [if_neg c1_13] at h
                              by_cases c1_14 : a1 = (14 : Int32)
                              · rw [if_pos c1_14] at h
                                refine zEV.tabIn 172 dX6_count_1 (14) c1_14 (by decide) (by decide) rfl (by decide) ?_
                                exact zEV.perm [0, 1] rfl (tX6_count_172 a1 M q h)
                              · rw [if_neg c1_14] at h
                                by_cases c1_15 : a1 = (15 : Int32)
                                · rw [if_pos c1_15] at h
                                  refine zEV.tabIn 172 dX6_count_1 (15) c1_15 (by decide) (by decide) rfl (by decide) ?_
                                  exact zEV.perm [0, 1] rfl (tX6_count_172 a1 M q h)
                                · rw [if_neg c1_15] at h
                                  refine zEV.tabOut 185 15 dX6_count_1 (by decide) (by decide) rfl (fun k hk => ?_) (by decide) ?_
                                  · match k, hk with
                                    | 0, _ => exact c1_0
                                    | 1, _ => exact c1_1
                                    | 2, _ => exact c1_2
                                    | 3, _ => exact c1_3
                                    | 4, _ => exact c1_4
                                    | 5, _ => exact c1_5
                                    | 6, _ => exact c1_6
                                    | 7, _ => exact c1_7
                                    | 8, _ => exact c1_8
                                    | 9, _ => exact c1_9
                                    | 10, _ => exact c1_10
                                    | 11, _ => exact c1_11
                                    | 12, _ => exact c1_12
                                    | 13, _ => exact c1_13
                                    | 14, _ => exact c1_14
                                    | 15, _ => exact c1_15
                                    | k + 16, hk => exact absurd hk (by omega)
                                  refine zEV.iconst (v := (-1)) dX6_count_185 rfl ?_
                                  have h := Option.some.inj h
                                  subst h
                                  exact zEV.iret rfl dX6_count_186
theorem kX6_count (a1 : Int32) (M : zMM) (q : Int32 × zMM) (h : fX6_count a1 M = some q) : zCN yX6_count iX6_count [.inr (.inr 157), .inl a1] M (some (.inl q.1), q.2) :=
  zCN.of (by decide) rfl rfl (Nat.le_of_ble_eq_true rfl) (zEV.perm [0, 1] rfl (tX6_count_0 a1 M q h))
-- RingedPage.row
def fX6_row (a1 : Int32) (M : zMM) : Option (Option Int64 × zMM) :=
  if a1 < (0 : Int32) then
    some (none, M)
  else
    if a1 < (M.1 155 1) then
      if oob (a1) 60 then none else
      some (some (M.2 156 (Int32.toNatClampNeg a1)), M)
    else
      some (none, M)
set_option maxRecDepth 100000 in
theorem tX6_row_0 (a1 : Int32) (M : zMM) (q : Option Int64 × zMM) (h : fX6_row a1  M = some q) : zEV iX6_row 1 6 (zZX (Option.map (fun v => (.inr (.inl v) : zAV)) q.1, q.2)) 0 [(0, .inr (.inr 157)), (1, .inl a1)] [] M := by
  unfold fX6_row at h
  refine zEV.iload_n dX6_row_0 rfl 1 rfl ?_
  refine zEV.if_lt 15 dX6_row_1 (by decide) (fun c1 => ?_) (fun c1 => ?_)
  · rw [if_pos c1] at h
    have h := Option.some.inj h
    subst h
    exact zEV.throw rfl ⟨Nat.le_of_ble_eq_true rfl, Nat.le_of_ble_eq_true rfl⟩ dX6_row_15 dX6_row_18 dX6_row_19 dX6_row_22
  · rw [if_neg c1] at h
    refine zEV.iload_n dX6_row_4 rfl 1 rfl ?_
    refine zEV.aload_n dX6_row_5 rfl 0 rfl ?_
    refine zEV.gfr rfl inz6 8 (by decide) wf_RX6_58 (by decide) rfl rfl dX6_row_6 ?_
    refine zEV.gfi rfl inz2 1 (by decide) wf_RX6_347 (by decide) rfl rfl dX6_row_9 ?_
    refine zEV.icmp_lt 23 dX6_row_12 (by decide) (fun c2 => ?_) (fun c2 => ?_)
    · rw [if_pos c2] at h
      refine zEV.aload_n dX6_row_23 rfl 0 rfl ?_
      refine zEV.gfr rfl inz6 8 (by decide) wf_RX6_58 (by decide) rfl rfl dX6_row_24 ?_
      refine zEV.gfr rfl inz2 0 (by decide) wf_RX6_351 (by decide) rfl rfl dX6_row_27 ?_
      refine zEV.iload_n dX6_row_30 rfl 1 rfl ?_
      obtain ⟨g3, h⟩ := ite_no h
      refine zEV.lald (by decide) rfl g3 dX6_row_31 ?_
      have h := Option.some.inj h
      subst h
      exact zEV.lretX rfl dX6_row_32
    · rw [if_neg c2] at h
      have h := Option.some.inj h
      subst h
      exact zEV.throw rfl ⟨Nat.le_of_ble_eq_true rfl, Nat.le_of_ble_eq_true rfl⟩ dX6_row_15 dX6_row_18 dX6_row_19 dX6_row_22
theorem kX6_row (a1 : Int32) (M : zMM) (q : Option Int64 × zMM) (h : fX6_row a1 M = some q) : zCX1 yX6_row iX6_row [.inr (.inr 157), .inl a1] M (Option.map (fun v => (.inr (.inl v) : zAV)) q.1, q.2) :=
  zCX1.of (by decide) rfl rfl (Nat.le_of_ble_eq_true rfl) (zEV.perm [0, 1] rfl (tX6_row_0 a1 M q h))
-- RingedPageModel.thrown
def fX7_thrown (M : zMM) : Option (Int32 × zMM) :=
  some ((M.1 158 5), M)
set_option maxRecDepth 100000 in
theorem tX7_thrown_0 (M : zMM) (q : Int32 × zMM) (h : fX7_thrown  M = some q) : zEV iX7_thrown 0 0 (zZO (some (.inl q.1), q.2)) 0 [(0, .inr (.inr 158))] [] M := by
  unfold fX7_thrown at h
  refine zEV.aload_n dX7_thrown_0 rfl 0 rfl ?_
  refine zEV.gfi rfl inz7 5 (by decide) wf_RX7_58 (by decide) rfl rfl dX7_thrown_1 ?_
  have h := Option.some.inj h
  subst h
  exact zEV.iret rfl dX7_thrown_4
theorem kX7_thrown (M : zMM) (q : Int32 × zMM) (h : fX7_thrown M = some q) : zCN yX7_thrown iX7_thrown [.inr (.inr 158)] M (some (.inl q.1), q.2) :=
  zCN.of (by decide) rfl rfl (Nat.le_of_ble_eq_true rfl) (zEV.perm [0] rfl (tX7_thrown_0 M q h))
-- RingedPageModel.in
def fX7_in (a0 : Int32) (a1 : Int32) (a2 : Int32) (M : zMM) : Option (Int32 × zMM) :=
  if a0 < a1 then
    some (0, M)
  else
    if a2 < a0 then
      some (0, M)
    else
      some (1, M)
set_option maxRecDepth 100000 in
theorem tX7_in_0 (a0 : Int32) (a1 : Int32) (a2 : Int32) (M : zMM) (q : Int32 × zMM) (h : fX7_in a0 a1 a2  M = some q) : zEV iX7_in 0 0 (zZO (some (.inl q.1), q.2)) 0 [(0, .inl a0), (1, .inl a1), (2, .inl a2)] [] M := by
  unfold fX7_in at h
  refine zEV.iload_n dX7_in_0 rfl 0 rfl ?_
  refine zEV.iload_n dX7_in_1 rfl 1 rfl ?_
  refine zEV.icmp_lt 14 dX7_in_2 (by decide) (fun c1 => ?_) (fun c1 => ?_)
  · rw [if_pos c1] at h
    refine zEV.iconst (v := 0) dX7_in_14 rfl ?_
    have h := Option.some.inj h
    subst h
    exact zEV.zret rfl (Or.inl rfl) dX7_in_15
  · rw [if_neg c1] at h
    refine zEV.iload_n dX7_in_5 rfl 0 rfl ?_
    refine zEV.iload_n dX7_in_6 rfl 2 rfl ?_
    refine zEV.icmp_gt 14 dX7_in_7 (by decide) (fun c2 => ?_) (fun c2 => ?_)
    · rw [if_pos c2] at h
      refine zEV.iconst (v := 0) dX7_in_14 rfl ?_
      have h := Option.some.inj h
      subst h
      exact zEV.zret rfl (Or.inl rfl) dX7_in_15
    · rw [if_neg c2] at h
      refine zEV.iconst (v := 1) dX7_in_10 rfl ?_
      refine zEV.goto 15 dX7_in_11 (by decide) ?_
      have h := Option.some.inj h
      subst h
      exact zEV.zret rfl (Or.inr rfl) dX7_in_15
theorem kX7_in (a0 : Int32) (a1 : Int32) (a2 : Int32) (M : zMM) (q : Int32 × zMM) (h : fX7_in a0 a1 a2 M = some q) : zCN yX7_in iX7_in [.inl a0, .inl a1, .inl a2] M (some (.inl q.1), q.2) :=
  zCN.of (by decide) rfl rfl (Nat.le_of_ble_eq_true rfl) (zEV.perm [0, 1, 2] rfl (tX7_in_0 a0 a1 a2 M q h))
-- RingedPageModel.lost
def fX7_lost (M : zMM) : Option (Int32 × zMM) :=
  some (0, (wr M 158 5 1))
set_option maxRecDepth 100000 in
theorem tX7_lost_0 (M : zMM) (q : Int32 × zMM) (h : fX7_lost  M = some q) : zEV iX7_lost 0 0 (zZO (some (.inl q.1), q.2)) 0 [(0, .inr (.inr 158))] [] M := by
  unfold fX7_lost at h
  refine zEV.aload_n dX7_lost_0 rfl 0 rfl ?_
  refine zEV.iconst (v := 1) dX7_lost_1 rfl ?_
  refine zEV.pfi rfl inz7 tyX7 tyX7_ok nmX7 5 (by decide) wf_RX7_58 rfl (by decide +kernel) (by decide) rfl rfl dX7_lost_2 ?_
  refine zEV.iconst (v := 0) dX7_lost_5 rfl ?_
  have h := Option.some.inj h
  subst h
  exact zEV.iret rfl dX7_lost_6
theorem kX7_lost (M : zMM) (q : Int32 × zMM) (h : fX7_lost M = some q) : zCN yX7_lost iX7_lost [.inr (.inr 158)] M (some (.inl q.1), q.2) :=
  zCN.of (by decide) rfl rfl (Nat.le_of_ble_eq_true rfl) (zEV.perm [0] rfl (tX7_lost_0 M q h))
-- RingedPageModel.tell
def fX7_tell (a1 : Int64) (M : zMM) : Option (zMM) :=
  if oob ((M.1 158 4)) 80 then none else
  some (wr (wrL M 161 (Int32.toNatClampNeg (M.1 158 4)) a1) 158 4 (((wrL M 161 (Int32.toNatClampNeg (M.1 158 4)) a1).1 158 4) + 1))
set_option maxRecDepth 100000 in
theorem tX7_tell_0 (a1 : Int64) (M : zMM) (q : zMM) (h : fX7_tell a1  M = some q) : zEV iX7_tell 0 0 (zZO (none, q)) 0 [(0, .inr (.inr 158)), (1, .inr (.inl a1))] [] M := by
  unfold fX7_tell at h
  refine zEV.aload_n dX7_tell_0 rfl 0 rfl ?_
  refine zEV.gfr rfl inz7 3 (by decide) wf_RX7_17 (by decide) rfl rfl dX7_tell_1 ?_
  refine zEV.aload_n dX7_tell_4 rfl 0 rfl ?_
  refine zEV.gfi rfl inz7 4 (by decide) wf_RX7_62 (by decide) rfl rfl dX7_tell_5 ?_
  refine zEV.lload_n dX7_tell_8 rfl 1 rfl ?_
  obtain ⟨g1, h⟩ := ite_no h
  refine zEV.last (by decide) rfl g1 dX7_tell_9 ?_
  refine zEV.aload_n dX7_tell_10 rfl 0 rfl ?_
  refine zEV.dup dX7_tell_11 rfl ?_
  refine zEV.gfi rfl inz7 4 (by decide) wf_RX7_62 (by decide) rfl rfl dX7_tell_12 ?_
  refine zEV.iconst (v := 1) dX7_tell_15 rfl ?_
  refine zEV.iadd dX7_tell_16 ?_
  refine zEV.pfi rfl inz7 tyX7 tyX7_ok nmX7 4 (by decide) wf_RX7_62 rfl (by decide +kernel) (by decide) rfl rfl dX7_tell_17 ?_
  have h := Option.some.inj h
  subst h
  exact zEV.vret rfl dX7_tell_20
theorem kX7_tell (a1 : Int64) (M : zMM) (q : zMM) (h : fX7_tell a1 M = some q) : zCN yX7_tell iX7_tell [.inr (.inr 158), .inr (.inl a1)] M (none, q) :=
  zCN.of (by decide) rfl rfl (Nat.le_of_ble_eq_true rfl) (zEV.perm [0, 1] rfl (tX7_tell_0 a1 M q h))
-- RingedPageModel.isText
def fX7_isText (a0 : Int32) (M : zMM) : Option (Int32 × zMM) :=
  (fX7_in (a0) (0) (2) M).bind fun q1 =>
  if q1.1 = 0 ∨ q1.1 = 1 then some (q1.1, q1.2) else none
set_option maxRecDepth 100000 in
theorem tX7_isText_0 (a0 : Int32) (M : zMM) (q : Int32 × zMM) (h : fX7_isText a0  M = some q) : zEV iX7_isText 0 0 (zZO (some (.inl q.1), q.2)) 0 [(0, .inl a0)] [] M := by
  unfold fX7_isText at h
  refine zEV.iload_n dX7_isText_0 rfl 0 rfl ?_
  refine zEV.iconst (v := 0) dX7_isText_1 rfl ?_
  refine zEV.iconst (v := 2) dX7_isText_2 rfl ?_
  obtain ⟨q1, hq1, h⟩ := bind_yes h
  refine zEV.callSi (kX7_in (a0) (0) (2)  M q1 hq1) wm_RX7_65 wc_X7_in hy_X7_in rfl ⟨Nat.le_of_ble_eq_true rfl, Nat.le_of_ble_eq_true rfl⟩ rfl (Nat.le_of_ble_eq_true rfl) dX7_isText_3 ?_
  obtain ⟨g2, h⟩ := ite_yes h
  have h := Option.some.inj h
  subst h
  exact zEV.zret rfl g2 dX7_isText_6
theorem kX7_isText (a0 : Int32) (M : zMM) (q : Int32 × zMM) (h : fX7_isText a0 M = some q) : zCN yX7_isText iX7_isText [.inl a0] M (some (.inl q.1), q.2) :=
  zCN.of (by decide) rfl rfl (Nat.le_of_ble_eq_true rfl) (zEV.perm [0] rfl (tX7_isText_0 a0 M q h))
-- RingedPageModel.isWord
def fX7_isWord (a1 : Int32) (a2 : Int32) (M : zMM) : Option (Int32 × zMM) :=
  (fX7_isText (a1) M).bind fun q1 =>
  if q1.1 = (0 : Int32) then
    some (0, q1.2)
  else
    if oob ((5 + a1)) 259 then none else
    (fX7_in (a2) (0) (((q1.2.1 159 (Int32.toNatClampNeg (5 + a1))) - 1)) q1.2).bind fun q4 =>
    if q4.1 = (0 : Int32) then
      some (0, q4.2)
    else
      some (1, q4.2)
set_option maxRecDepth 100000 in
theorem tX7_isWord_0 (a1 : Int32) (a2 : Int32) (M : zMM) (q : Int32 × zMM) (h : fX7_isWord a1 a2  M = some q) : zEV iX7_isWord 0 0 (zZO (some (.inl q.1), q.2)) 0 [(0, .inr (.inr 158)), (1, .inl a1), (2, .inl a2)] [] M := by
  unfold fX7_isWord at h
  refine zEV.iload_n dX7_isWord_0 rfl 1 rfl ?_
  obtain ⟨q1, hq1, h⟩ := bind_yes h
  refine zEV.callSi (kX7_isText (a1)  M q1 hq1) wm_RX7_69 wc_X7_isText hy_X7_isText rfl ⟨Nat.le_of_ble_eq_true rfl, Nat.le_of_ble_eq_true rfl⟩ rfl (Nat.le_of_ble_eq_true rfl) dX7_isWord_1 ?_
  refine zEV.if_eq 29 dX7_isWord_4 (by decide) (fun c2 => ?_) (fun c2 => ?_)
  · rw [if_pos c2] at h
    refine zEV.iconst (v := 0) dX7_isWord_29 rfl ?_
    have h := Option.some.inj h
    subst h
    exact zEV.zret rfl (Or.inl rfl) dX7_isWord_30
  · rw [if_neg c2] at h
    refine zEV.iload_n dX7_isWord_7 rfl 2 rfl ?_
    refine zEV.iconst (v := 0) dX7_isWord_8 rfl ?_
    refine zEV.aload_n dX7_isWord_9 rfl 0 rfl ?_
    refine zEV.gfr rfl inz7 0 (by decide) wf_RX7_9 (by decide) rfl rfl dX7_isWord_10 ?_
    refine zEV.iconst (v := 5) dX7_isWord_13 rfl ?_
    refine zEV.iload_n dX7_isWord_14 rfl 1 rfl ?_
    refine zEV.iadd dX7_isWord_15 ?_
    obtain ⟨g3, h⟩ := ite_no h
    refine zEV.iald (by decide) rfl g3 dX7_isWord_16 ?_
    refine zEV.iconst (v := 1) dX7_isWord_17 rfl ?_
    refine zEV.isub dX7_isWord_18 ?_
    obtain ⟨q4, hq4, h⟩ := bind_yes h
    refine zEV.callSi (kX7_in (a2) (0) (((q1.2.1 159 (Int32.toNatClampNeg (5 + a1))) - 1))  q1.2 q4 hq4) wm_RX7_65 wc_X7_in hy_X7_in rfl ⟨Nat.le_of_ble_eq_true rfl, Nat.le_of_ble_eq_true rfl⟩ rfl (Nat.le_of_ble_eq_true rfl) dX7_isWord_19 ?_
    refine zEV.if_eq 29 dX7_isWord_22 (by decide) (fun c5 => ?_) (fun c5 => ?_)
    · rw [if_pos c5] at h
      refine zEV.iconst (v := 0) dX7_isWord_29 rfl ?_
      have h := Option.some.inj h
      subst h
      exact zEV.zret rfl (Or.inl rfl) dX7_isWord_30
    · rw [if_neg c5] at h
      refine zEV.iconst (v := 1) dX7_isWord_25 rfl ?_
      refine zEV.goto 30 dX7_isWord_26 (by decide) ?_
      have h := Option.some.inj h
      subst h
      exact zEV.zret rfl (Or.inr rfl) dX7_isWord_30
theorem kX7_isWord (a1 : Int32) (a2 : Int32) (M : zMM) (q : Int32 × zMM) (h : fX7_isWord a1 a2 M = some q) : zCN yX7_isWord iX7_isWord [.inr (.inr 158), .inl a1, .inl a2] M (some (.inl q.1), q.2) :=
  zCN.of (by decide) rfl rfl (Nat.le_of_ble_eq_true rfl) (zEV.perm [0, 1, 2] rfl (tX7_isWord_0 a1 a2 M q h))
-- RingedPageModel.size
def fX7_size (a1 : Int32) (a2 : Int32) (M : zMM) : Option (Int32 × zMM) :=
  if oob (((8 + (70 * a1)) + a2)) 259 then none else
  some ((M.1 159 (Int32.toNatClampNeg ((8 + (70 * a1)) + a2))), M)
set_option maxRecDepth 100000 in
theorem tX7_size_0 (a1 : Int32) (a2 : Int32) (M : zMM) (q : Int32 × zMM) (h : fX7_size a1 a2  M = some q) : zEV iX7_size 0 0 (zZO (some (.inl q.1), q.2)) 0 [(0, .inr (.inr 158)), (1, .inl a1), (2, .inl a2)] [] M := by
  unfold fX7_size at h
  refine zEV.aload_n dX7_size_0 rfl 0 rfl ?_
  refine zEV.gfr rfl inz7 0 (by decide) wf_RX7_9 (by decide) rfl rfl dX7_size_1 ?_
  refine zEV.bipush (v := 8) dX7_size_4 rfl ?_
  refine zEV.bipush (v := 70) dX7_size_6 rfl ?_
  refine zEV.iload_n dX7_size_8 rfl 1 rfl ?_
  refine zEV.imul dX7_size_9 ?_
  refine zEV.iadd dX7_size_10 ?_
  refine zEV.iload_n dX7_size_11 rfl 2 rfl ?_
  refine zEV.iadd dX7_size_12 ?_
  obtain ⟨g1, h⟩ := ite_no h
  refine zEV.iald (by decide) rfl g1 dX7_size_13 ?_
  have h := Option.some.inj h
  subst h
  exact zEV.iret rfl dX7_size_14
theorem kX7_size (a1 : Int32) (a2 : Int32) (M : zMM) (q : Int32 × zMM) (h : fX7_size a1 a2 M = some q) : zCN yX7_size iX7_size [.inr (.inr 158), .inl a1, .inl a2] M (some (.inl q.1), q.2) :=
  zCN.of (by decide) rfl rfl (Nat.le_of_ble_eq_true rfl) (zEV.perm [0, 1, 2] rfl (tX7_size_0 a1 a2 M q h))
-- RingedPageModel.tied
def fX7_tied (a1 : Int32) (a2 : Int32) (M : zMM) : Option (Int32 × zMM) :=
  if oob (((219 + (3 * a1)) + a2)) 259 then none else
  some ((M.1 159 (Int32.toNatClampNeg ((219 + (3 * a1)) + a2))), M)
set_option maxRecDepth 100000 in
theorem tX7_tied_0 (a1 : Int32) (a2 : Int32) (M : zMM) (q : Int32 × zMM) (h : fX7_tied a1 a2  M = some q) : zEV iX7_tied 0 0 (zZO (some (.inl q.1), q.2)) 0 [(0, .inr (.inr 158)), (1, .inl a1), (2, .inl a2)] [] M := by
  unfold fX7_tied at h
  refine zEV.aload_n dX7_tied_0 rfl 0 rfl ?_
  refine zEV.gfr rfl inz7 0 (by decide) wf_RX7_9 (by decide) rfl rfl dX7_tied_1 ?_
  refine zEV.sipush (v := 219) dX7_tied_4 rfl ?_
  refine zEV.iconst (v := 3) dX7_tied_7 rfl ?_
  refine zEV.iload_n dX7_tied_8 rfl 1 rfl ?_
  refine zEV.imul dX7_tied_9 ?_
  refine zEV.iadd dX7_tied_10 ?_
  refine zEV.iload_n dX7_tied_11 rfl 2 rfl ?_
  refine zEV.iadd dX7_tied_12 ?_
  obtain ⟨g1, h⟩ := ite_no h
  refine zEV.iald (by decide) rfl g1 dX7_tied_13 ?_
  have h := Option.some.inj h
  subst h
  exact zEV.iret rfl dX7_tied_14
theorem kX7_tied (a1 : Int32) (a2 : Int32) (M : zMM) (q : Int32 × zMM) (h : fX7_tied a1 a2 M = some q) : zCN yX7_tied iX7_tied [.inr (.inr 158), .inl a1, .inl a2] M (some (.inl q.1), q.2) :=
  zCN.of (by decide) rfl rfl (Nat.le_of_ble_eq_true rfl) (zEV.perm [0, 1, 2] rfl (tX7_tied_0 a1 a2 M q h))
