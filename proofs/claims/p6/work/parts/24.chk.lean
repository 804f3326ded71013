set_option maxRecDepth 100000 in
set_option maxHeartbeats 4000000 in
theorem a_cO : am_cdE aT aLM := am_cdE_app a_cO_0 (am_cdE_app a_cO_1 (am_cdE_app a_cO_2 (am_cdE_app a_cO_3 (am_cdE_app a_cO_4 (am_cdE_app a_cO_5 (am_cdE_app a_cO_6 (am_cdE_app a_cO_7 (am_cdE_app a_cO_8 (am_cdE_app a_cO_9 (am_cdE_app a_cO_10 (am_cdE_app a_cO_11 (am_cdE_app a_cO_12 (am_cdE_app a_cO_13 (am_cdE_app a_cO_14 (am_cdE_app a_cO_15 (am_cdE_app a_cO_16 (am_cdE_app a_cO_17 (a_cO_18))))))))))))))))))
set_option maxRecDepth 100000 in
set_option maxHeartbeats 4000000 in
theorem a_cF_0_0 : aLF_0_0.all (am_okF aOn aCl aT 0) = true := by decide +kernel
set_option maxRecDepth 100000 in
set_option maxHeartbeats 4000000 in
theorem a_cF_0_1 : aLF_0_1.all (am_okF aOn aCl aT 0) = true := by decide +kernel
theorem a_cF_0 : aLF_0.all (am_okF aOn aCl aT 0) = true := am_app a_cF_0_0 (a_cF_0_1)
set_option maxRecDepth 100000 in
set_option maxHeartbeats 4000000 in
theorem a_cF_1_0 : aLF_1_0.all (am_okF aOn aCl aT 1) = true := by decide +kernel
theorem a_cF_1 : aLF_1.all (am_okF aOn aCl aT 1) = true := a_cF_1_0
set_option maxRecDepth 100000 in
set_option maxHeartbeats 4000000 in
theorem a_cF_2_0 : aLF_2_0.all (am_okF aOn aCl aT 2) = true := by decide +kernel
theorem a_cF_2 : aLF_2.all (am_okF aOn aCl aT 2) = true := a_cF_2_0
set_option maxRecDepth 100000 in
set_option maxHeartbeats 4000000 in
theorem a_cF_3_0 : aLF_3_0.all (am_okF aOn aCl aT 3) = true := by decide +kernel
theorem a_cF_3 : aLF_3.all (am_okF aOn aCl aT 3) = true := a_cF_3_0
set_option maxRecDepth 100000 in
set_option maxHeartbeats 4000000 in
theorem a_cF_4_0 : aLF_4_0.all (am_okF aOn aCl aT 4) = true := by decide +kernel
theorem a_cF_4 : aLF_4.all (am_okF aOn aCl aT 4) = true := a_cF_4_0
set_option maxRecDepth 100000 in
set_option maxHeartbeats 4000000 in
theorem a_cF_5_0 : aLF_5_0.all (am_okF aOn aCl aT 5) = true := by decide +kernel
theorem a_cF_5 : aLF_5.all (am_okF aOn aCl aT 5) = true := a_cF_5_0
set_option maxRecDepth 100000 in
set_option maxHeartbeats 4000000 in
theorem a_cF_6_0 : aLF_6_0.all (am_okF aOn aCl aT 6) = true := by decide +kernel
theorem a_cF_6 : aLF_6.all (am_okF aOn aCl aT 6) = true := a_cF_6_0
set_option maxRecDepth 100000 in
set_option maxHeartbeats 4000000 in
theorem a_cF_7_0 : aLF_7_0.all (am_okF aOn aCl aT 7) = true := by decide +kernel
theorem a_cF_7 : aLF_7.all (am_okF aOn aCl aT 7) = true := a_cF_7_0
set_option maxRecDepth 100000 in
set_option maxHeartbeats 4000000 in
theorem a_cF_8_0 : aLF_8_0.all (am_okF aOn aCl aT 8) = true := by decide +kernel
theorem a_cF_8 : aLF_8.all (am_okF aOn aCl aT 8) = true := a_cF_8_0
set_option maxRecDepth 100000 in
set_option maxHeartbeats 4000000 in
theorem a_cF_9_0 : aLF_9_0.all (am_okF aOn aCl aT 9) = true := by decide +kernel
set_option maxRecDepth 100000 in
set_option maxHeartbeats 4000000 in
theorem a_cF_9_1 : aLF_9_1.all (am_okF aOn aCl aT 9) = true := by decide +kernel
theorem a_cF_9 : aLF_9.all (am_okF aOn aCl aT 9) = true := am_app a_cF_9_0 (a_cF_9_1)
set_option maxRecDepth 100000 in
set_option maxHeartbeats 4000000 in
theorem a_cF_10_0 : aLF_10_0.all (am_okF aOn aCl aT 10) = true := by decide +kernel
set_option maxRecDepth 100000 in
set_option maxHeartbeats 4000000 in
theorem a_cF_10_1 : aLF_10_1.all (am_okF aOn aCl aT 10) = true := by decide +kernel
theorem a_cF_10 : aLF_10.all (am_okF aOn aCl aT 10) = true := am_app a_cF_10_0 (a_cF_10_1)
set_option maxRecDepth 100000 in
set_option maxHeartbeats 4000000 in
theorem a_cF_11_0 : aLF_11_0.all (am_okF aOn aCl aT 11) = true := by decide +kernel
set_option maxRecDepth 100000 in
set_option maxHeartbeats 4000000 in
theorem a_cF_11_1 : aLF_11_1.all (am_okF aOn aCl aT 11) = true := by decide +kernel
theorem a_cF_11 : aLF_11.all (am_okF aOn aCl aT 11) = true := am_app a_cF_11_0 (a_cF_11_1)
set_option maxRecDepth 100000 in
set_option maxHeartbeats 4000000 in
theorem a_cF_12_0 : aLF_12_0.all (am_okF aOn aCl aT 12) = true := by decide +kernel
theorem a_cF_12 : aLF_12.all (am_okF aOn aCl aT 12) = true := a_cF_12_0
set_option maxRecDepth 100000 in
set_option maxHeartbeats 4000000 in
theorem a_cF_13_0 : aLF_13_0.all (am_okF aOn aCl aT 13) = true := by decide +kernel
set_option maxRecDepth 100000 in
set_option maxHeartbeats 4000000 in
theorem a_cF_13_1 : aLF_13_1.all (am_okF aOn aCl aT 13) = true := by decide +kernel
set_option maxRecDepth 100000 in
set_option maxHeartbeats 4000000 in
theorem a_cF_13_2 : aLF_13_2.all (am_okF aOn aCl aT 13) = true := by decide +kernel
set_option maxRecDepth 100000 in
set_option maxHeartbeats 4000000 in
theorem a_cF_13_3 : aLF_13_3.all (am_okF aOn aCl aT 13) = true := by decide +kernel
set_option maxRecDepth 100000 in
set_option maxHeartbeats 4000000 in
theorem a_cF_13_4 : aLF_13_4.all (am_okF aOn aCl aT 13) = true := by decide +kernel
set_option maxRecDepth 100000 in
set_option maxHeartbeats 4000000 in
theorem a_cF_13_5 : aLF_13_5.all (am_okF aOn aCl aT 13) = true := by decide +kernel
set_option maxRecDepth 100000 in
set_option maxHeartbeats 4000000 in
theorem a_cF_13_6 : aLF_13_6.all (am_okF aOn aCl aT 13) = true := by decide +kernel
theorem a_cF_13 : aLF_13.all (am_okF aOn aCl aT 13) = true := am_app a_cF_13_0 (am_app a_cF_13_1 (am_app a_cF_13_2 (am_app a_cF_13_3 (am_app a_cF_13_4 (am_app a_cF_13_5 (a_cF_13_6))))))
set_option maxRecDepth 100000 in
set_option maxHeartbeats 4000000 in
theorem a_cF_14_0 : aLF_14_0.all (am_okF aOn aCl aT 14) = true := by decide +kernel
theorem a_cF_14 : aLF_14.all (am_okF aOn aCl aT 14) = true := a_cF_14_0
theorem a_cF : am_all aLF (am_okF aOn aCl aT) = true := by
  refine am_all_of fun o l h => ?_
  match o, h with
  | 0, h => cases h; exact a_cF_0
  | 1, h => cases h; exact a_cF_1
  | 2, h => cases h; exact a_cF_2
  | 3, h => cases h; exact a_cF_3
  | 4, h => cases h; exact a_cF_4
  | 5, h => cases h; exact a_cF_5
  | 6, h => cases h; exact a_cF_6
  | 7, h => cases h; exact a_cF_7
  | 8, h => cases h; exact a_cF_8
  | 9, h => cases h; exact a_cF_9
  | 10, h => cases h; exact a_cF_10
  | 11, h => cases h; exact a_cF_11
  | 12, h => cases h; exact a_cF_12
  | 13, h => cases h; exact a_cF_13
  | 14, h => cases h; exact a_cF_14
  | n + 15, h => simp [aLF] at h
set_option maxRecDepth 100000 in
set_option maxHeartbeats 4000000 in
theorem a_cK_0_0 : aLK_0_0.all (am_okK aOn aT 0) = true := by decide +kernel
theorem a_cK_0 : aLK_0.all (am_okK aOn aT 0) = true := a_cK_0_0
set_option maxRecDepth 100000 in
set_option maxHeartbeats 4000000 in
theorem a_cK_1_0 : aLK_1_0.all (am_okK aOn aT 1) = true := by decide +kernel
theorem a_cK_1 : aLK_1.all (am_okK aOn aT 1) = true := a_cK_1_0
set_option maxRecDepth 100000 in
set_option maxHeartbeats 4000000 in
theorem a_cK_2_0 : aLK_2_0.all (am_okK aOn aT 2) = true := by decide +kernel
theorem a_cK_2 : aLK_2.all (am_okK aOn aT 2) = true := a_cK_2_0
set_option maxRecDepth 100000 in
set_option maxHeartbeats 4000000 in
theorem a_cK_3_0 : aLK_3_0.all (am_okK aOn aT 3) = true := by decide +kernel
theorem a_cK_3 : aLK_3.all (am_okK aOn aT 3) = true := a_cK_3_0
set_option maxRecDepth 100000 in
set_option maxHeartbeats 4000000 in
theorem a_cK_4_0 : aLK_4_0.all (am_okK aOn aT 4) = true := by decide +kernel
theorem a_cK_4 : aLK_4.all (am_okK aOn aT 4) = true := a_cK_4_0
set_option maxRecDepth 100000 in
set_option maxHeartbeats 4000000 in
theorem a_cK_5_0 : aLK_5_0.all (am_okK aOn aT 5) = true := by decide +kernel
theorem a_cK_5 : aLK_5.all (am_okK aOn aT 5) = true := a_cK_5_0
set_option maxRecDepth 100000 in
set_option maxHeartbeats 4000000 in
theorem a_cK_6_0 : aLK_6_0.all (am_okK aOn aT 6) = true := by decide +kernel
theorem a_cK_6 : aLK_6.all (am_okK aOn aT 6) = true := a_cK_6_0
set_option maxRecDepth 100000 in
set_option maxHeartbeats 4000000 in
theorem a_cK_7_0 : aLK_7_0.all (am_okK aOn aT 7) = true := by decide +kernel
theorem a_cK_7 : aLK_7.all (am_okK aOn aT 7) = true := a_cK_7_0
set_option maxRecDepth 100000 in
set_option maxHeartbeats 4000000 in
theorem a_cK_8_0 : aLK_8_0.all (am_okK aOn aT 8) = true := by decide +kernel
theorem a_cK_8 : aLK_8.all (am_okK aOn aT 8) = true := a_cK_8_0
set_option maxRecDepth 100000 in
set_option maxHeartbeats 4000000 in
theorem a_cK_9_0 : aLK_9_0.all (am_okK aOn aT 9) = true := by decide +kernel
theorem a_cK_9 : aLK_9.all (am_okK aOn aT 9) = true := a_cK_9_0
set_option maxRecDepth 100000 in
set_option maxHeartbeats 4000000 in
theorem a_cK_10_0 : aLK_10_0.all (am_okK aOn aT 10) = true := by decide +kernel
theorem a_cK_10 : aLK_10.all (am_okK aOn aT 10) = true := a_cK_10_0
set_option maxRecDepth 100000 in
set_option maxHeartbeats 4000000 in
theorem a_cK_11_0 : aLK_11_0.all (am_okK aOn aT 11) = true := by decide +kernel
theorem a_cK_11 : aLK_11.all (am_okK aOn aT 11) = true := a_cK_11_0
set_option maxRecDepth 100000 in
set_option maxHeartbeats 4000000 in
theorem a_cK_12_0 : aLK_12_0.all (am_okK aOn aT 12) = true := by decide +kernel
theorem a_cK_12 : aLK_12.all (am_okK aOn aT 12) = true := a_cK_12_0
set_option maxRecDepth 100000 in
set_option maxHeartbeats 4000000 in
theorem a_cK_13_0 : aLK_13_0.all (am_okK aOn aT 13) = true := by decide +kernel
set_option maxRecDepth 100000 in
set_option maxHeartbeats 4000000 in
theorem a_cK_13_1 : aLK_13_1.all (am_okK aOn aT 13) = true := by decide +kernel
theorem a_cK_13 : aLK_13.all (am_okK aOn aT 13) = true := am_app a_cK_13_0 (a_cK_13_1)
set_option maxRecDepth 100000 in
set_option maxHeartbeats 4000000 in
theorem a_cK_14_0 : aLK_14_0.all (am_okK aOn aT 14) = true := by decide +kernel
theorem a_cK_14 : aLK_14.all (am_okK aOn aT 14) = true := a_cK_14_0
theorem a_cK : am_all aLK (am_okK aOn aT) = true := by
  refine am_all_of fun o l h => ?_
  match o, h with
  | 0, h => cases h; exact a_cK_0
  | 1, h => cases h; exact a_cK_1
  | 2, h => cases h; exact a_cK_2
  | 3, h => cases h; exact a_cK_3
  | 4, h => cases h; exact a_cK_4
  | 5, h => cases h; exact a_cK_5
  | 6, h => cases h; exact a_cK_6
  | 7, h => cases h; exact a_cK_7
  | 8, h => cases h; exact a_cK_8
  | 9, h => cases h; exact a_cK_9
  | 10, h => cases h; exact a_cK_10
  | 11, h => cases h; exact a_cK_11
  | 12, h => cases h; exact a_cK_12
  | 13, h => cases h; exact a_cK_13
  | 14, h => cases h; exact a_cK_14
  | n + 15, h => simp [aLK] at h
set_option maxRecDepth 100000 in
set_option maxHeartbeats 4000000 in
theorem a_cW_0_0 : aLW_0_0.all (am_okW aOn aCl aT 0) = true := by decide +kernel
theorem a_cW_0 : aLW_0.all (am_okW aOn aCl aT 0) = true := a_cW_0_0
set_option maxRecDepth 100000 in
set_option maxHeartbeats 4000000 in
theorem a_cW_1_0 : aLW_1_0.all (am_okW aOn aCl aT 1) = true := by decide +kernel
theorem a_cW_1 : aLW_1.all (am_okW aOn aCl aT 1) = true := a_cW_1_0
set_option maxRecDepth 100000 in
set_option maxHeartbeats 4000000 in
theorem a_cW_2_0 : aLW_2_0.all (am_okW aOn aCl aT 2) = true := by decide +kernel
theorem a_cW_2 : aLW_2.all (am_okW aOn aCl aT 2) = true := a_cW_2_0
set_option maxRecDepth 100000 in
set_option maxHeartbeats 4000000 in
theorem a_cW_3_0 : aLW_3_0.all (am_okW aOn aCl aT 3) = true := by decide +kernel
theorem a_cW_3 : aLW_3.all (am_okW aOn aCl aT 3) = true := a_cW_3_0
set_option maxRecDepth 100000 in
set_option maxHeartbeats 4000000 in
theorem a_cW_4_0 : aLW_4_0.all (am_okW aOn aCl aT 4) = true := by decide +kernel
theorem a_cW_4 : aLW_4.all (am_okW aOn aCl aT 4) = true := a_cW_4_0
set_option maxRecDepth 100000 in
set_option maxHeartbeats 4000000 in
theorem a_cW_5_0 : aLW_5_0.all (am_okW aOn aCl aT 5) = true := by decide +kernel
theorem a_cW_5 : aLW_5.all (am_okW aOn aCl aT 5) = true := a_cW_5_0
set_option maxRecDepth 100000 in
set_option maxHeartbeats 4000000 in
theorem a_cW_6_0 : aLW_6_0.all (am_okW aOn aCl aT 6) = true := by decide +kernel
theorem a_cW_6 : aLW_6.all (am_okW aOn aCl aT 6) = true := a_cW_6_0
set_option maxRecDepth 100000 in
set_option maxHeartbeats 4000000 in
theorem a_cW_7_0 : aLW_7_0.all (am_okW aOn aCl aT 7) = true := by decide +kernel
theorem a_cW_7 : aLW_7.all (am_okW aOn aCl aT 7) = true := a_cW_7_0
set_option maxRecDepth 100000 in
set_option maxHeartbeats 4000000 in
theorem a_cW_8_0 : aLW_8_0.all (am_okW aOn aCl aT 8) = true := by decide +kernel
theorem a_cW_8 : aLW_8.all (am_okW aOn aCl aT 8) = true := a_cW_8_0
set_option maxRecDepth 100000 in
set_option maxHeartbeats 4000000 in
theorem a_cW_9_0 : aLW_9_0.all (am_okW aOn aCl aT 9) = true := by decide +kernel
theorem a_cW_9 : aLW_9.all (am_okW aOn aCl aT 9) = true := a_cW_9_0
set_option maxRecDepth 100000 in
set_option maxHeartbeats 4000000 in
theorem a_cW_10_0 : aLW_10_0.all (am_okW aOn aCl aT 10) = true := by decide +kernel
theorem a_cW_10 : aLW_10.all (am_okW aOn aCl aT 10) = true := a_cW_10_0
set_option maxRecDepth 100000 in
set_option maxHeartbeats 4000000 in
theorem a_cW_11_0 : aLW_11_0.all (am_okW aOn aCl aT 11) = true := by decide +kernel
theorem a_cW_11 : aLW_11.all (am_okW aOn aCl aT 11) = true := a_cW_11_0
set_option maxRecDepth 100000 in
set_option maxHeartbeats 4000000 in
theorem a_cW_12_0 : aLW_12_0.all (am_okW aOn aCl aT 12) = true := by decide +kernel
theorem a_cW_12 : aLW_12.all (am_okW aOn aCl aT 12) = true := a_cW_12_0
set_option maxRecDepth 100000 in
set_option maxHeartbeats 4000000 in
theorem a_cW_13_0 : aLW_13_0.all (am_okW aOn aCl aT 13) = true := by decide +kernel
theorem a_cW_13 : aLW_13.all (am_okW aOn aCl aT 13) = true := a_cW_13_0
set_option maxRecDepth 100000 in
set_option maxHeartbeats 4000000 in
theorem a_cW_14_0 : aLW_14_0.all (am_okW aOn aCl aT 14) = true := by decide +kernel
theorem a_cW_14 : aLW_14.all (am_okW aOn aCl aT 14) = true := a_cW_14_0
theorem a_cW : am_all aLW (am_okW aOn aCl aT) = true := by
  refine am_all_of fun o l h => ?_
  match o, h with
  | 0, h => cases h; exact a_cW_0
  | 1, h => cases h; exact a_cW_1
  | 2, h => cases h; exact a_cW_2
  | 3, h => cases h; exact a_cW_3
  | 4, h => cases h; exact a_cW_4
  | 5, h => cases h; exact a_cW_5
  | 6, h => cases h; exact a_cW_6
  | 7, h => cases h; exact a_cW_7
  | 8, h => cases h; exact a_cW_8
  | 9, h => cases h; exact a_cW_9
  | 10, h => cases h; exact a_cW_10
  | 11, h => cases h; exact a_cW_11
  | 12, h => cases h; exact a_cW_12
  | 13, h => cases h; exact a_cW_13
  | 14, h => cases h; exact a_cW_14
  | n + 15, h => simp [aLW] at h
set_option maxRecDepth 100000 in
set_option maxHeartbeats 4000000 in
theorem a_cA_0_0 : aLA_0_0.all (am_okA aOn aKd aT 0) = true := by decide +kernel
theorem a_cA_0 : aLA_0.all (am_okA aOn aKd aT 0) = true := a_cA_0_0
set_option maxRecDepth 100000 in
set_option maxHeartbeats 4000000 in
theorem a_cA_1_0 : aLA_1_0.all (am_okA aOn aKd aT 1) = true := by decide +kernel
theorem a_cA_1 : aLA_1.all (am_okA aOn aKd aT 1) = true := a_cA_1_0
set_option maxRecDepth 100000 in
set_option maxHeartbeats 4000000 in
theorem a_cA_2_0 : aLA_2_0.all (am_okA aOn aKd aT 2) = true := by decide +kernel
theorem a_cA_2 : aLA_2.all (am_okA aOn aKd aT 2) = true := a_cA_2_0
set_option maxRecDepth 100000 in
set_option maxHeartbeats 4000000 in
theorem a_cA_3_0 : aLA_3_0.all (am_okA aOn aKd aT 3) = true := by decide +kernel
theorem a_cA_3 : aLA_3.all (am_okA aOn aKd aT 3) = true := a_cA_3_0
set_option maxRecDepth 100000 in
set_option maxHeartbeats 4000000 in
theorem a_cA_4_0 : aLA_4_0.all (am_okA aOn aKd aT 4) = true := by decide +kernel
theorem a_cA_4 : aLA_4.all (am_okA aOn aKd aT 4) = true := a_cA_4_0
set_option maxRecDepth 100000 in
set_option maxHeartbeats 4000000 in
theorem a_cA_5_0 : aLA_5_0.all (am_okA aOn aKd aT 5) = true := by decide +kernel
theorem a_cA_5 : aLA_5.all (am_okA aOn aKd aT 5) = true := a_cA_5_0
set_option maxRecDepth 100000 in
set_option maxHeartbeats 4000000 in
theorem a_cA_6_0 : aLA_6_0.all (am_okA aOn aKd aT 6) = true := by decide +kernel
theorem a_cA_6 : aLA_6.all (am_okA aOn aKd aT 6) = true := a_cA_6_0
set_option maxRecDepth 100000 in
set_option maxHeartbeats 4000000 in
theorem a_cA_7_0 : aLA_7_0.all (am_okA aOn aKd aT 7) = true := by decide +kernel
theorem a_cA_7 : aLA_7.all (am_okA aOn aKd aT 7) = true := a_cA_7_0
set_option maxRecDepth 100000 in
set_option maxHeartbeats 4000000 in
theorem a_cA_8_0 : aLA_8_0.all (am_okA aOn aKd aT 8) = true := by decide +kernel
theorem a_cA_8 : aLA_8.all (am_okA aOn aKd aT 8) = true := a_cA_8_0
set_option maxRecDepth 100000 in
set_option maxHeartbeats 4000000 in
theorem a_cA_9_0 : aLA_9_0.all (am_okA aOn aKd aT 9) = true := by decide +kernel
theorem a_cA_9 : aLA_9.all (am_okA aOn aKd aT 9) = true := a_cA_9_0
set_option maxRecDepth 100000 in
set_option maxHeartbeats 4000000 in
theorem a_cA_10_0 : aLA_10_0.all (am_okA aOn aKd aT 10) = true := by decide +kernel
theorem a_cA_10 : aLA_10.all (am_okA aOn aKd aT 10) = true := a_cA_10_0
set_option maxRecDepth 100000 in
set_option maxHeartbeats 4000000 in
theorem a_cA_11_0 : aLA_11_0.all (am_okA aOn aKd aT 11) = true := by decide +kernel
theorem a_cA_11 : aLA_11.all (am_okA aOn aKd aT 11) = true := a_cA_11_0
set_option maxRecDepth 100000 in
set_option maxHeartbeats 4000000 in
theorem a_cA_12_0 : aLA_12_0.all (am_okA aOn aKd aT 12) = true := by decide +kernel
theorem a_cA_12 : aLA_12.all (am_okA aOn aKd aT 12) = true := a_cA_12_0
set_option maxRecDepth 100000 in
set_option maxHeartbeats 4000000 in
theorem a_cA_13_0 : aLA_13_0.all (am_okA aOn aKd aT 13) = true := by decide +kernel
theorem a_cA_13 : aLA_13.all (am_okA aOn aKd aT 13) = true := a_cA_13_0
set_option maxRecDepth 100000 in
set_option maxHeartbeats 4000000 in
theorem a_cA_14_0 : aLA_14_0.all (am_okA aOn aKd aT 14) = true := by decide +kernel
theorem a_cA_14 : aLA_14.all (am_okA aOn aKd aT 14) = true := a_cA_14_0
theorem a_cA : am_all aLA (am_okA aOn aKd aT) = true := by
  refine am_all_of fun o l h => ?_
  match o, h with
  | 0, h => cases h; exact a_cA_0
  | 1, h => cases h; exact a_cA_1
  | 2, h => cases h; exact a_cA_2
  | 3, h => cases h; exact a_cA_3
  | 4, h => cases h; exact a_cA_4
  | 5, h => cases h; exact a_cA_5
  | 6, h => cases h; exact a_cA_6
  | 7, h => cases h; exact a_cA_7
  | 8, h => cases h; exact a_cA_8
  | 9, h => cases h; exact a_cA_9
  | 10, h => cases h; exact a_cA_10
  | 11, h => cases h; exact a_cA_11
  | 12, h => cases h; exact a_cA_12
  | 13, h => cases h; exact a_cA_13
  | 14, h => cases h; exact a_cA_14
  | n + 15, h => simp [aLA] at h
set_option maxRecDepth 100000 in
set_option maxHeartbeats 4000000 in
theorem a_cZ_0_0 : aLZ_0_0.all (am_okZ aOn aT aZn 0) = true := by decide +kernel
theorem a_cZ_0 : aLZ_0.all (am_okZ aOn aT aZn 0) = true := a_cZ_0_0
set_option maxRecDepth 100000 in
set_option maxHeartbeats 4000000 in
theorem a_cZ_1_0 : aLZ_1_0.all (am_okZ aOn aT aZn 1) = true := by decide +kernel
theorem a_cZ_1 : aLZ_1.all (am_okZ aOn aT aZn 1) = true := a_cZ_1_0
set_option maxRecDepth 100000 in
set_option maxHeartbeats 4000000 in
theorem a_cZ_2_0 : aLZ_2_0.all (am_okZ aOn aT aZn 2) = true := by decide +kernel
theorem a_cZ_2 : aLZ_2.all (am_okZ aOn aT aZn 2) = true := a_cZ_2_0
set_option maxRecDepth 100000 in
set_option maxHeartbeats 4000000 in
theorem a_cZ_3_0 : aLZ_3_0.all (am_okZ aOn aT aZn 3) = true := by decide +kernel
theorem a_cZ_3 : aLZ_3.all (am_okZ aOn aT aZn 3) = true := a_cZ_3_0
set_option maxRecDepth 100000 in
set_option maxHeartbeats 4000000 in
theorem a_cZ_4_0 : aLZ_4_0.all (am_okZ aOn aT aZn 4) = true := by decide +kernel
theorem a_cZ_4 : aLZ_4.all (am_okZ aOn aT aZn 4) = true := a_cZ_4_0
set_option maxRecDepth 100000 in
set_option maxHeartbeats 4000000 in
theorem a_cZ_5_0 : aLZ_5_0.all (am_okZ aOn aT aZn 5) = true := by decide +kernel
theorem a_cZ_5 : aLZ_5.all (am_okZ aOn aT aZn 5) = true := a_cZ_5_0
set_option maxRecDepth 100000 in
set_option maxHeartbeats 4000000 in
theorem a_cZ_6_0 : aLZ_6_0.all (am_okZ aOn aT aZn 6) = true := by decide +kernel
theorem a_cZ_6 : aLZ_6.all (am_okZ aOn aT aZn 6) = true := a_cZ_6_0
set_option maxRecDepth 100000 in
set_option maxHeartbeats 4000000 in
theorem a_cZ_7_0 : aLZ_7_0.all (am_okZ aOn aT aZn 7) = true := by decide +kernel
theorem a_cZ_7 : aLZ_7.all (am_okZ aOn aT aZn 7) = true := a_cZ_7_0
set_option maxRecDepth 100000 in
set_option maxHeartbeats 4000000 in
theorem a_cZ_8_0 : aLZ_8_0.all (am_okZ aOn aT aZn 8) = true := by decide +kernel
theorem a_cZ_8 : aLZ_8.all (am_okZ aOn aT aZn 8) = true := a_cZ_8_0
set_option maxRecDepth 100000 in
set_option maxHeartbeats 4000000 in
theorem a_cZ_9_0 : aLZ_9_0.all (am_okZ aOn aT aZn 9) = true := by decide +kernel
theorem a_cZ_9 : aLZ_9.all (am_okZ aOn aT aZn 9) = true := a_cZ_9_0
set_option maxRecDepth 100000 in
set_option maxHeartbeats 4000000 in
theorem a_cZ_10_0 : aLZ_10_0.all (am_okZ aOn aT aZn 10) = true := by decide +kernel
theorem a_cZ_10 : aLZ_10.all (am_okZ aOn aT aZn 10) = true := a_cZ_10_0
set_option maxRecDepth 100000 in
set_option maxHeartbeats 4000000 in
theorem a_cZ_11_0 : aLZ_11_0.all (am_okZ aOn aT aZn 11) = true := by decide +kernel
theorem a_cZ_11 : aLZ_11.all (am_okZ aOn aT aZn 11) = true := a_cZ_11_0
set_option maxRecDepth 100000 in
set_option maxHeartbeats 4000000 in
theorem a_cZ_12_0 : aLZ_12_0.all (am_okZ aOn aT aZn 12) = true := by decide +kernel
theorem a_cZ_12 : aLZ_12.all (am_okZ aOn aT aZn 12) = true := a_cZ_12_0
set_option maxRecDepth 100000 in
set_option maxHeartbeats 4000000 in
theorem a_cZ_13_0 : aLZ_13_0.all (am_okZ aOn aT aZn 13) = true := by decide +kernel
theorem a_cZ_13 : aLZ_13.all (am_okZ aOn aT aZn 13) = true := a_cZ_13_0
set_option maxRecDepth 100000 in
set_option maxHeartbeats 4000000 in
theorem a_cZ_14_0 : aLZ_14_0.all (am_okZ aOn aT aZn 14) = true := by decide +kernel
theorem a_cZ_14 : aLZ_14.all (am_okZ aOn aT aZn 14) = true := a_cZ_14_0
theorem a_cZ : am_all aLZ (am_okZ aOn aT aZn) = true := by
  refine am_all_of fun o l h => ?_
  match o, h with
  | 0, h => cases h; exact a_cZ_0
  | 1, h => cases h; exact a_cZ_1
  | 2, h => cases h; exact a_cZ_2
  | 3, h => cases h; exact a_cZ_3
  | 4, h => cases h; exact a_cZ_4
  | 5, h => cases h; exact a_cZ_5
  | 6, h => cases h; exact a_cZ_6
  | 7, h => cases h; exact a_cZ_7
  | 8, h => cases h; exact a_cZ_8
  | 9, h => cases h; exact a_cZ_9
  | 10, h => cases h; exact a_cZ_10
  | 11, h => cases h; exact a_cZ_11
  | 12, h => cases h; exact a_cZ_12
  | 13, h => cases h; exact a_cZ_13
  | 14, h => cases h; exact a_cZ_14
  | n + 15, h => simp [aLZ] at h
set_option maxRecDepth 100000 in
set_option maxHeartbeats 4000000 in
theorem a_cS_0_0 : aLS_0_0.all (am_okS aOn aT aLM 0) = true := by decide +kernel
theorem a_cS_0 : aLS_0.all (am_okS aOn aT aLM 0) = true := a_cS_0_0
set_option maxRecDepth 100000 in
set_option maxHeartbeats 4000000 in
theorem a_cS_1_0 : aLS_1_0.all (am_okS aOn aT aLM 1) = true := by decide +kernel
theorem a_cS_1 : aLS_1.all (am_okS aOn aT aLM 1) = true := a_cS_1_0
set_option maxRecDepth 100000 in
set_option maxHeartbeats 4000000 in
theorem a_cS_2_0 : aLS_2_0.all (am_okS aOn aT aLM 2) = true := by decide +kernel
theorem a_cS_2 : aLS_2.all (am_okS aOn aT aLM 2) = true := a_cS_2_0
set_option maxRecDepth 100000 in
set_option maxHeartbeats 4000000 in
theorem a_cS_3_0 : aLS_3_0.all (am_okS aOn aT aLM 3) = true := by decide +kernel
theorem a_cS_3 : aLS_3.all (am_okS aOn aT aLM 3) = true := a_cS_3_0
set_option maxRecDepth 100000 in
set_option maxHeartbeats 4000000 in
theorem a_cS_4_0 : aLS_4_0.all (am_okS aOn aT aLM 4) = true := by decide +kernel
theorem a_cS_4 : aLS_4.all (am_okS aOn aT aLM 4) = true := a_cS_4_0
set_option maxRecDepth 100000 in
set_option maxHeartbeats 4000000 in
theorem a_cS_5_0 : aLS_5_0.all (am_okS aOn aT aLM 5) = true := by decide +kernel
theorem a_cS_5 : aLS_5.all (am_okS aOn aT aLM 5) = true := a_cS_5_0
set_option maxRecDepth 100000 in
set_option maxHeartbeats 4000000 in
theorem a_cS_6_0 : aLS_6_0.all (am_okS aOn aT aLM 6) = true := by decide +kernel
theorem a_cS_6 : aLS_6.all (am_okS aOn aT aLM 6) = true := a_cS_6_0
set_option maxRecDepth 100000 in
set_option maxHeartbeats 4000000 in
theorem a_cS_7_0 : aLS_7_0.all (am_okS aOn aT aLM 7) = true := by decide +kernel
theorem a_cS_7 : aLS_7.all (am_okS aOn aT aLM 7) = true := a_cS_7_0
set_option maxRecDepth 100000 in
set_option maxHeartbeats 4000000 in
theorem a_cS_8_0 : aLS_8_0.all (am_okS aOn aT aLM 8) = true := by decide +kernel
theorem a_cS_8 : aLS_8.all (am_okS aOn aT aLM 8) = true := a_cS_8_0
set_option maxRecDepth 100000 in
set_option maxHeartbeats 4000000 in
theorem a_cS_9_0 : aLS_9_0.all (am_okS aOn aT aLM 9) = true := by decide +kernel
theorem a_cS_9 : aLS_9.all (am_okS aOn aT aLM 9) = true := a_cS_9_0
set_option maxRecDepth 100000 in
set_option maxHeartbeats 4000000 in
theorem a_cS_10_0 : aLS_10_0.all (am_okS aOn aT aLM 10) = true := by decide +kernel
theorem a_cS_10 : aLS_10.all (am_okS aOn aT aLM 10) = true := a_cS_10_0
set_option maxRecDepth 100000 in
set_option maxHeartbeats 4000000 in
theorem a_cS_11_0 : aLS_11_0.all (am_okS aOn aT aLM 11) = true := by decide +kernel
theorem a_cS_11 : aLS_11.all (am_okS aOn aT aLM 11) = true := a_cS_11_0
set_option maxRecDepth 100000 in
set_option maxHeartbeats 4000000 in
theorem a_cS_12_0 : aLS_12_0.all (am_okS aOn aT aLM 12) = true := by decide +kernel
theorem a_cS_12 : aLS_12.all (am_okS aOn aT aLM 12) = true := a_cS_12_0
set_option maxRecDepth 100000 in
set_option maxHeartbeats 4000000 in
theorem a_cS_13_0 : aLS_13_0.all (am_okS aOn aT aLM 13) = true := by decide +kernel
theorem a_cS_13 : aLS_13.all (am_okS aOn aT aLM 13) = true := a_cS_13_0
set_option maxRecDepth 100000 in
set_option maxHeartbeats 4000000 in
theorem a_cS_14_0 : aLS_14_0.all (am_okS aOn aT aLM 14) = true := by decide +kernel
theorem a_cS_14 : aLS_14.all (am_okS aOn aT aLM 14) = true := a_cS_14_0
theorem a_cS : am_all aLS (am_okS aOn aT aLM) = true := by
  refine am_all_of fun o l h => ?_
  match o, h with
  | 0, h => cases h; exact a_cS_0
  | 1, h => cases h; exact a_cS_1
  | 2, h => cases h; exact a_cS_2
  | 3, h => cases h; exact a_cS_3
  | 4, h => cases h; exact a_cS_4
  | 5, h => cases h; exact a_cS_5
  | 6, h => cases h; exact a_cS_6
  | 7, h => cases h; exact a_cS_7
  | 8, h => cases h; exact a_cS_8
  | 9, h => cases h; exact a_cS_9
  | 10, h => cases h; exact a_cS_10
  | 11, h => cases h; exact a_cS_11
  | 12, h => cases h; exact a_cS_12
  | 13, h => cases h; exact a_cS_13
  | 14, h => cases h; exact a_cS_14
  | n + 15, h => simp [aLS] at h
set_option maxRecDepth 100000 in
set_option maxHeartbeats 4000000 in
theorem a_cI_0_0 : aLI_0_0.all (am_okI aOn aT aLM 0) = true := by decide +kernel
theorem a_cI_0 : aLI_0.all (am_okI aOn aT aLM 0) = true := a_cI_0_0
set_option maxRecDepth 100000 in
set_option maxHeartbeats 4000000 in
theorem a_cI_1_0 : aLI_1_0.all (am_okI aOn aT aLM 1) = true := by decide +kernel
theorem a_cI_1 : aLI_1.all (am_okI aOn aT aLM 1) = true := a_cI_1_0
set_option maxRecDepth 100000 in
set_option maxHeartbeats 4000000 in
theorem a_cI_2_0 : aLI_2_0.all (am_okI aOn aT aLM 2) = true := by decide +kernel
theorem a_cI_2 : aLI_2.all (am_okI aOn aT aLM 2) = true := a_cI_2_0
set_option maxRecDepth 100000 in
set_option maxHeartbeats 4000000 in
theorem a_cI_3_0 : aLI_3_0.all (am_okI aOn aT aLM 3) = true := by decide +kernel
theorem a_cI_3 : aLI_3.all (am_okI aOn aT aLM 3) = true := a_cI_3_0
set_option maxRecDepth 100000 in
set_option maxHeartbeats 4000000 in
theorem a_cI_4_0 : aLI_4_0.all (am_okI aOn aT aLM 4) = true := by decide +kernel
theorem a_cI_4 : aLI_4.all (am_okI aOn aT aLM 4) = true := a_cI_4_0
set_option maxRecDepth 100000 in
set_option maxHeartbeats 4000000 in
theorem a_cI_5_0 : aLI_5_0.all (am_okI aOn aT aLM 5) = true := by decide +kernel
theorem a_cI_5 : aLI_5.all (am_okI aOn aT aLM 5) = true := a_cI_5_0
set_option maxRecDepth 100000 in
set_option maxHeartbeats 4000000 in
theorem a_cI_6_0 : aLI_6_0.all (am_okI aOn aT aLM 6) = true := by decide +kernel
theorem a_cI_6 : aLI_6.all (am_okI aOn aT aLM 6) = true := a_cI_6_0
set_option maxRecDepth 100000 in
set_option maxHeartbeats 4000000 in
theorem a_cI_7_0 : aLI_7_0.all (am_okI aOn aT aLM 7) = true := by decide +kernel
theorem a_cI_7 : aLI_7.all (am_okI aOn aT aLM 7) = true := a_cI_7_0
set_option maxRecDepth 100000 in
set_option maxHeartbeats 4000000 in
theorem a_cI_8_0 : aLI_8_0.all (am_okI aOn aT aLM 8) = true := by decide +kernel
theorem a_cI_8 : aLI_8.all (am_okI aOn aT aLM 8) = true := a_cI_8_0
set_option maxRecDepth 100000 in
set_option maxHeartbeats 4000000 in
theorem a_cI_9_0 : aLI_9_0.all (am_okI aOn aT aLM 9) = true := by decide +kernel
theorem a_cI_9 : aLI_9.all (am_okI aOn aT aLM 9) = true := a_cI_9_0
set_option maxRecDepth 100000 in
set_option maxHeartbeats 4000000 in
theorem a_cI_10_0 : aLI_10_0.all (am_okI aOn aT aLM 10) = true := by decide +kernel
theorem a_cI_10 : aLI_10.all (am_okI aOn aT aLM 10) = true := a_cI_10_0
set_option maxRecDepth 100000 in
set_option maxHeartbeats 4000000 in
theorem a_cI_11_0 : aLI_11_0.all (am_okI aOn aT aLM 11) = true := by decide +kernel
theorem a_cI_11 : aLI_11.all (am_okI aOn aT aLM 11) = true := a_cI_11_0
set_option maxRecDepth 100000 in
set_option maxHeartbeats 4000000 in
theorem a_cI_12_0 : aLI_12_0.all (am_okI aOn aT aLM 12) = true := by decide +kernel
theorem a_cI_12 : aLI_12.all (am_okI aOn aT aLM 12) = true := a_cI_12_0
set_option maxRecDepth 100000 in
set_option maxHeartbeats 4000000 in
theorem a_cI_13_0 : aLI_13_0.all (am_okI aOn aT aLM 13) = true := by decide +kernel
theorem a_cI_13 : aLI_13.all (am_okI aOn aT aLM 13) = true := a_cI_13_0
set_option maxRecDepth 100000 in
set_option maxHeartbeats 4000000 in
theorem a_cI_14_0 : aLI_14_0.all (am_okI aOn aT aLM 14) = true := by decide +kernel
theorem a_cI_14 : aLI_14.all (am_okI aOn aT aLM 14) = true := a_cI_14_0
theorem a_cI : am_all aLI (am_okI aOn aT aLM) = true := by
  refine am_all_of fun o l h => ?_
  match o, h with
  | 0, h => cases h; exact a_cI_0
  | 1, h => cases h; exact a_cI_1
  | 2, h => cases h; exact a_cI_2
  | 3, h => cases h; exact a_cI_3
  | 4, h => cases h; exact a_cI_4
  | 5, h => cases h; exact a_cI_5
  | 6, h => cases h; exact a_cI_6
  | 7, h => cases h; exact a_cI_7
  | 8, h => cases h; exact a_cI_8
  | 9, h => cases h; exact a_cI_9
  | 10, h => cases h; exact a_cI_10
  | 11, h => cases h; exact a_cI_11
  | 12, h => cases h; exact a_cI_12
  | 13, h => cases h; exact a_cI_13
  | 14, h => cases h; exact a_cI_14
  | n + 15, h => simp [aLI] at h
set_option maxRecDepth 100000 in
set_option maxHeartbeats 4000000 in
theorem a_cV_0_0 : aLV_0_0.all (am_okV aOn aCl aT aLM 0) = true := by decide +kernel
set_option maxRecDepth 100000 in
set_option maxHeartbeats 4000000 in
theorem a_cV_0_1 : aLV_0_1.all (am_okV aOn aCl aT aLM 0) = true := by decide +kernel
set_option maxRecDepth 100000 in
set_option maxHeartbeats 4000000 in
theorem a_cV_0_2 : aLV_0_2.all (am_okV aOn aCl aT aLM 0) = true := by decide +kernel
theorem a_cV_0 : aLV_0.all (am_okV aOn aCl aT aLM 0) = true := am_app a_cV_0_0 (am_app a_cV_0_1 (a_cV_0_2))
set_option maxRecDepth 100000 in
set_option maxHeartbeats 4000000 in
theorem a_cV_1_0 : aLV_1_0.all (am_okV aOn aCl aT aLM 1) = true := by decide +kernel
theorem a_cV_1 : aLV_1.all (am_okV aOn aCl aT aLM 1) = true := a_cV_1_0
set_option maxRecDepth 100000 in
set_option maxHeartbeats 4000000 in
theorem a_cV_2_0 : aLV_2_0.all (am_okV aOn aCl aT aLM 2) = true := by decide +kernel
theorem a_cV_2 : aLV_2.all (am_okV aOn aCl aT aLM 2) = true := a_cV_2_0
set_option maxRecDepth 100000 in
set_option maxHeartbeats 4000000 in
theorem a_cV_3_0 : aLV_3_0.all (am_okV aOn aCl aT aLM 3) = true := by decide +kernel
theorem a_cV_3 : aLV_3.all (am_okV aOn aCl aT aLM 3) = true := a_cV_3_0
set_option maxRecDepth 100000 in
set_option maxHeartbeats 4000000 in
theorem a_cV_4_0 : aLV_4_0.all (am_okV aOn aCl aT aLM 4) = true := by decide +kernel
theorem a_cV_4 : aLV_4.all (am_okV aOn aCl aT aLM 4) = true := a_cV_4_0
set_option maxRecDepth 100000 in
set_option maxHeartbeats 4000000 in
theorem a_cV_5_0 : aLV_5_0.all (am_okV aOn aCl aT aLM 5) = true := by decide +kernel
theorem a_cV_5 : aLV_5.all (am_okV aOn aCl aT aLM 5) = true := a_cV_5_0
set_option maxRecDepth 100000 in
set_option maxHeartbeats 4000000 in
theorem a_cV_6_0 : aLV_6_0.all (am_okV aOn aCl aT aLM 6) = true := by decide +kernel
theorem a_cV_6 : aLV_6.all (am_okV aOn aCl aT aLM 6) = true := a_cV_6_0
set_option maxRecDepth 100000 in
set_option maxHeartbeats 4000000 in
theorem a_cV_7_0 : aLV_7_0.all (am_okV aOn aCl aT aLM 7) = true := by decide +kernel
theorem a_cV_7 : aLV_7.all (am_okV aOn aCl aT aLM 7) = true := a_cV_7_0
set_option maxRecDepth 100000 in
set_option maxHeartbeats 4000000 in
theorem a_cV_8_0 : aLV_8_0.all (am_okV aOn aCl aT aLM 8) = true := by decide +kernel
theorem a_cV_8 : aLV_8.all (am_okV aOn aCl aT aLM 8) = true := a_cV_8_0
set_option maxRecDepth 100000 in
set_option maxHeartbeats 4000000 in
theorem a_cV_9_0 : aLV_9_0.all (am_okV aOn aCl aT aLM 9) = true := by decide +kernel
set_option maxRecDepth 100000 in
set_option maxHeartbeats 4000000 in
theorem a_cV_9_1 : aLV_9_1.all (am_okV aOn aCl aT aLM 9) = true := by decide +kernel
set_option maxRecDepth 100000 in
set_option maxHeartbeats 4000000 in
theorem a_cV_9_2 : aLV_9_2.all (am_okV aOn aCl aT aLM 9) = true := by decide +kernel
theorem a_cV_9 : aLV_9.all (am_okV aOn aCl aT aLM 9) = true := am_app a_cV_9_0 (am_app a_cV_9_1 (a_cV_9_2))
set_option maxRecDepth 100000 in
set_option maxHeartbeats 4000000 in
theorem a_cV_10_0 : aLV_10_0.all (am_okV aOn aCl aT aLM 10) = true := by decide +kernel
set_option maxRecDepth 100000 in
set_option maxHeartbeats 4000000 in
theorem a_cV_10_1 : aLV_10_1.all (am_okV aOn aCl aT aLM 10) = true := by decide +kernel
set_option maxRecDepth 100000 in
set_option maxHeartbeats 4000000 in
theorem a_cV_10_2 : aLV_10_2.all (am_okV aOn aCl aT aLM 10) = true := by decide +kernel
theorem a_cV_10 : aLV_10.all (am_okV aOn aCl aT aLM 10) = true := am_app a_cV_10_0 (am_app a_cV_10_1 (a_cV_10_2))
set_option maxRecDepth 100000 in
set_option maxHeartbeats 4000000 in
theorem a_cV_11_0 : aLV_11_0.all (am_okV aOn aCl aT aLM 11) = true := by decide +kernel
set_option maxRecDepth 100000 in
set_option maxHeartbeats 4000000 in
theorem a_cV_11_1 : aLV_11_1.all (am_okV aOn aCl aT aLM 11) = true := by decide +kernel
set_option maxRecDepth 100000 in
set_option maxHeartbeats 4000000 in
theorem a_cV_11_2 : aLV_11_2.all (am_okV aOn aCl aT aLM 11) = true := by decide +kernel
theorem a_cV_11 : aLV_11.all (am_okV aOn aCl aT aLM 11) = true := am_app a_cV_11_0 (am_app a_cV_11_1 (a_cV_11_2))
set_option maxRecDepth 100000 in
set_option maxHeartbeats 4000000 in
theorem a_cV_12_0 : aLV_12_0.all (am_okV aOn aCl aT aLM 12) = true := by decide +kernel
theorem a_cV_12 : aLV_12.all (am_okV aOn aCl aT aLM 12) = true := a_cV_12_0
set_option maxRecDepth 100000 in
set_option maxHeartbeats 4000000 in
theorem a_cV_13_0 : aLV_13_0.all (am_okV aOn aCl aT aLM 13) = true := by decide +kernel
set_option maxRecDepth 100000 in
set_option maxHeartbeats 4000000 in
theorem a_cV_13_1 : aLV_13_1.all (am_okV aOn aCl aT aLM 13) = true := by decide +kernel
set_option maxRecDepth 100000 in
set_option maxHeartbeats 4000000 in
theorem a_cV_13_2 : aLV_13_2.all (am_okV aOn aCl aT aLM 13) = true := by decide +kernel
set_option maxRecDepth 100000 in
set_option maxHeartbeats 4000000 in
theorem a_cV_13_3 : aLV_13_3.all (am_okV aOn aCl aT aLM 13) = true := by decide +kernel
set_option maxRecDepth 100000 in
set_option maxHeartbeats 4000000 in
theorem a_cV_13_4 : aLV_13_4.all (am_okV aOn aCl aT aLM 13) = true := by decide +kernel
set_option maxRecDepth 100000 in
set_option maxHeartbeats 4000000 in
theorem a_cV_13_5 : aLV_13_5.all (am_okV aOn aCl aT aLM 13) = true := by decide +kernel
theorem a_cV_13 : aLV_13.all (am_okV aOn aCl aT aLM 13) = true := am_app a_cV_13_0 (am_app a_cV_13_1 (am_app a_cV_13_2 (am_app a_cV_13_3 (am_app a_cV_13_4 (a_cV_13_5)))))
set_option maxRecDepth 100000 in
set_option maxHeartbeats 4000000 in
theorem a_cV_14_0 : aLV_14_0.all (am_okV aOn aCl aT aLM 14) = true := by decide +kernel
set_option maxRecDepth 100000 in
set_option maxHeartbeats 4000000 in
theorem a_cV_14_1 : aLV_14_1.all (am_okV aOn aCl aT aLM 14) = true := by decide +kernel
set_option maxRecDepth 100000 in
set_option maxHeartbeats 4000000 in
theorem a_cV_14_2 : aLV_14_2.all (am_okV aOn aCl aT aLM 14) = true := by decide +kernel
set_option maxRecDepth 100000 in
set_option maxHeartbeats 4000000 in
theorem a_cV_14_3 : aLV_14_3.all (am_okV aOn aCl aT aLM 14) = true := by decide +kernel
set_option maxRecDepth 100000 in
set_option maxHeartbeats 4000000 in
theorem a_cV_14_4 : aLV_14_4.all (am_okV aOn aCl aT aLM 14) = true := by decide +kernel
theorem a_cV_14 : aLV_14.all (am_okV aOn aCl aT aLM 14) = true := am_app a_cV_14_0 (am_app a_cV_14_1 (am_app a_cV_14_2 (am_app a_cV_14_3 (a_cV_14_4))))
theorem a_cV : am_all aLV (am_okV aOn aCl aT aLM) = true := by
  refine am_all_of fun o l h => ?_
  match o, h with
  | 0, h => cases h; exact a_cV_0
  | 1, h => cases h; exact a_cV_1
  | 2, h => cases h; exact a_cV_2
  | 3, h => cases h; exact a_cV_3
  | 4, h => cases h; exact a_cV_4
  | 5, h => cases h; exact a_cV_5
  | 6, h => cases h; exact a_cV_6
  | 7, h => cases h; exact a_cV_7
  | 8, h => cases h; exact a_cV_8
  | 9, h => cases h; exact a_cV_9
  | 10, h => cases h; exact a_cV_10
  | 11, h => cases h; exact a_cV_11
  | 12, h => cases h; exact a_cV_12
  | 13, h => cases h; exact a_cV_13
  | 14, h => cases h; exact a_cV_14
  | n + 15, h => simp [aLV] at h
set_option maxRecDepth 100000 in
set_option maxHeartbeats 4000000 in
theorem a_cT_0_0 : aLN_0_0.all (am_okN aOn aKd aT 0) = true := by decide +kernel
theorem a_cT_0 : aLN_0.all (am_okN aOn aKd aT 0) = true := a_cT_0_0
set_option maxRecDepth 100000 in
set_option maxHeartbeats 4000000 in
theorem a_cT_1_0 : aLN_1_0.all (am_okN aOn aKd aT 1) = true := by decide +kernel
theorem a_cT_1 : aLN_1.all (am_okN aOn aKd aT 1) = true := a_cT_1_0
set_option maxRecDepth 100000 in
set_option maxHeartbeats 4000000 in
theorem a_cT_2_0 : aLN_2_0.all (am_okN aOn aKd aT 2) = true := by decide +kernel
theorem a_cT_2 : aLN_2.all (am_okN aOn aKd aT 2) = true := a_cT_2_0
set_option maxRecDepth 100000 in
set_option maxHeartbeats 4000000 in
theorem a_cT_3_0 : aLN_3_0.all (am_okN aOn aKd aT 3) = true := by decide +kernel
theorem a_cT_3 : aLN_3.all (am_okN aOn aKd aT 3) = true := a_cT_3_0
set_option maxRecDepth 100000 in
set_option maxHeartbeats 4000000 in
theorem a_cT_4_0 : aLN_4_0.all (am_okN aOn aKd aT 4) = true := by decide +kernel
theorem a_cT_4 : aLN_4.all (am_okN aOn aKd aT 4) = true := a_cT_4_0
set_option maxRecDepth 100000 in
set_option maxHeartbeats 4000000 in
theorem a_cT_5_0 : aLN_5_0.all (am_okN aOn aKd aT 5) = true := by decide +kernel
theorem a_cT_5 : aLN_5.all (am_okN aOn aKd aT 5) = true := a_cT_5_0
set_option maxRecDepth 100000 in
set_option maxHeartbeats 4000000 in
theorem a_cT_6_0 : aLN_6_0.all (am_okN aOn aKd aT 6) = true := by decide +kernel
theorem a_cT_6 : aLN_6.all (am_okN aOn aKd aT 6) = true := a_cT_6_0
set_option maxRecDepth 100000 in
set_option maxHeartbeats 4000000 in
theorem a_cT_7_0 : aLN_7_0.all (am_okN aOn aKd aT 7) = true := by decide +kernel
theorem a_cT_7 : aLN_7.all (am_okN aOn aKd aT 7) = true := a_cT_7_0
set_option maxRecDepth 100000 in
set_option maxHeartbeats 4000000 in
theorem a_cT_8_0 : aLN_8_0.all (am_okN aOn aKd aT 8) = true := by decide +kernel
theorem a_cT_8 : aLN_8.all (am_okN aOn aKd aT 8) = true := a_cT_8_0
set_option maxRecDepth 100000 in
set_option maxHeartbeats 4000000 in
theorem a_cT_9_0 : aLN_9_0.all (am_okN aOn aKd aT 9) = true := by decide +kernel
theorem a_cT_9 : aLN_9.all (am_okN aOn aKd aT 9) = true := a_cT_9_0
set_option maxRecDepth 100000 in
set_option maxHeartbeats 4000000 in
theorem a_cT_10_0 : aLN_10_0.all (am_okN aOn aKd aT 10) = true := by decide +kernel
theorem a_cT_10 : aLN_10.all (am_okN aOn aKd aT 10) = true := a_cT_10_0
set_option maxRecDepth 100000 in
set_option maxHeartbeats 4000000 in
theorem a_cT_11_0 : aLN_11_0.all (am_okN aOn aKd aT 11) = true := by decide +kernel
theorem a_cT_11 : aLN_11.all (am_okN aOn aKd aT 11) = true := a_cT_11_0
set_option maxRecDepth 100000 in
set_option maxHeartbeats 4000000 in
theorem a_cT_12_0 : aLN_12_0.all (am_okN aOn aKd aT 12) = true := by decide +kernel
theorem a_cT_12 : aLN_12.all (am_okN aOn aKd aT 12) = true := a_cT_12_0
set_option maxRecDepth 100000 in
set_option maxHeartbeats 4000000 in
theorem a_cT_13_0 : aLN_13_0.all (am_okN aOn aKd aT 13) = true := by decide +kernel
theorem a_cT_13 : aLN_13.all (am_okN aOn aKd aT 13) = true := a_cT_13_0
set_option maxRecDepth 100000 in
set_option maxHeartbeats 4000000 in
theorem a_cT_14_0 : aLN_14_0.all (am_okN aOn aKd aT 14) = true := by decide +kernel
theorem a_cT_14 : aLN_14.all (am_okN aOn aKd aT 14) = true := a_cT_14_0
theorem a_cT : am_all aLN (am_okN aOn aKd aT) = true := by
  refine am_all_of fun o l h => ?_
  match o, h with
  | 0, h => cases h; exact a_cT_0
  | 1, h => cases h; exact a_cT_1
  | 2, h => cases h; exact a_cT_2
  | 3, h => cases h; exact a_cT_3
  | 4, h => cases h; exact a_cT_4
  | 5, h => cases h; exact a_cT_5
  | 6, h => cases h; exact a_cT_6
  | 7, h => cases h; exact a_cT_7
  | 8, h => cases h; exact a_cT_8
  | 9, h => cases h; exact a_cT_9
  | 10, h => cases h; exact a_cT_10
  | 11, h => cases h; exact a_cT_11
  | 12, h => cases h; exact a_cT_12
  | 13, h => cases h; exact a_cT_13
  | 14, h => cases h; exact a_cT_14
  | n + 15, h => simp [aLN] at h
set_option maxRecDepth 100000 in
set_option maxHeartbeats 4000000 in
theorem a_cC : (aLC.all (am_okC aCl aT aTy)) = true := by decide +kernel
set_option maxRecDepth 100000 in
set_option maxHeartbeats 4000000 in
theorem a_cG : (aLG.all (am_okG aCl aKd aT)) = true := by decide +kernel
set_option maxRecDepth 100000 in
set_option maxHeartbeats 4000000 in
theorem a_cN : aLC.map (fun q => q.1.1) = List.range aCl.length := by decide +kernel
theorem a_nm : ∀ (ci : Nat) (C : String) (T : u_T) (N : Nat), aCl[ci]? = some (C, T, N) → ∀ a, a < N → ∀ b, b < N → a ≠ b → (T a).2.1 ≠ (T b).2.1 := by
  intro ci C T N h
  match ci, h with
  | 0, h => cases h; exact nmX0
  | 1, h => cases h; exact nmX1
  | 2, h => cases h; exact nmX2
  | 3, h => cases h; exact nmX3
  | 4, h => cases h; exact nmX4
  | 5, h => cases h; exact nmX5
  | 6, h => cases h; exact nmX6
  | 7, h => cases h; exact nmX7
  | 8, h => cases h; exact nmX8
  | 9, h => cases h; exact nmX9
  | 10, h => cases h; exact nmX11
  | 11, h => cases h; exact nmX12
  | n + 12, h => simp [aCl] at h
set_option maxRecDepth 100000 in
set_option maxHeartbeats 4000000 in
theorem a_a0 : Cond.arrayClass .int ∈ am_Ts aT := am_in_s (q := (0, 88)) (by decide +kernel)
set_option maxRecDepth 100000 in
set_option maxHeartbeats 4000000 in
theorem a_a1 : Cond.arrayClass .long ∈ am_Ts aT := am_in_s (q := (1, 77)) (by decide +kernel)
set_option maxRecDepth 100000 in
set_option maxHeartbeats 4000000 in
theorem a_a2 : Cond.arrayClass .boolean ∈ am_Ts aT := am_in_s (q := (12, 51)) (by decide +kernel)
theorem a_G (sa : Nat → Nat) : am_G (aP sa) aCl (am_Ts aT) (am_Nw aT) (am_zs aZn sa) := am_G_of a_cM a_cO a_cF a_cK a_cW a_cC a_cN a_cA a_cZ a_cS a_cI a_cV a_cT a_cG a_nm rfl rfl rfl a_a0 a_a1 a_a2 sa
