set_option maxRecDepth 100000 in
set_option maxHeartbeats 4000000 in
theorem a_cM_0 : aLM_0.all (am_okM aOn aT) = true := by decide +kernel
set_option maxRecDepth 100000 in
set_option maxHeartbeats 4000000 in
theorem a_cM_1 : aLM_1.all (am_okM aOn aT) = true := by decide +kernel
set_option maxRecDepth 100000 in
set_option maxHeartbeats 4000000 in
theorem a_cM_2 : aLM_2.all (am_okM aOn aT) = true := by decide +kernel
set_option maxRecDepth 100000 in
set_option maxHeartbeats 4000000 in
theorem a_cM_3 : aLM_3.all (am_okM aOn aT) = true := by decide +kernel
set_option maxRecDepth 100000 in
set_option maxHeartbeats 4000000 in
theorem a_cM_4 : aLM_4.all (am_okM aOn aT) = true := by decide +kernel
set_option maxRecDepth 100000 in
set_option maxHeartbeats 4000000 in
theorem a_cM_5 : aLM_5.all (am_okM aOn aT) = true := by decide +kernel
set_option maxRecDepth 100000 in
set_option maxHeartbeats 4000000 in
theorem a_cM_6 : aLM_6.all (am_okM aOn aT) = true := by decide +kernel
set_option maxRecDepth 100000 in
set_option maxHeartbeats 4000000 in
theorem a_cM_7 : aLM_7.all (am_okM aOn aT) = true := by decide +kernel
set_option maxRecDepth 100000 in
set_option maxHeartbeats 4000000 in
theorem a_cM_8 : aLM_8.all (am_okM aOn aT) = true := by decide +kernel
set_option maxRecDepth 100000 in
set_option maxHeartbeats 4000000 in
theorem a_cM_9 : aLM_9.all (am_okM aOn aT) = true := by decide +kernel
set_option maxRecDepth 100000 in
set_option maxHeartbeats 4000000 in
theorem a_cM_10 : aLM_10.all (am_okM aOn aT) = true := by decide +kernel
set_option maxRecDepth 100000 in
set_option maxHeartbeats 4000000 in
theorem a_cM_11 : aLM_11.all (am_okM aOn aT) = true := by decide +kernel
set_option maxRecDepth 100000 in
set_option maxHeartbeats 4000000 in
theorem a_cM_12 : aLM_12.all (am_okM aOn aT) = true := by decide +kernel
set_option maxRecDepth 100000 in
set_option maxHeartbeats 4000000 in
theorem a_cM_13 : aLM_13.all (am_okM aOn aT) = true := by decide +kernel
set_option maxRecDepth 100000 in
set_option maxHeartbeats 4000000 in
theorem a_cM_14 : aLM_14.all (am_okM aOn aT) = true := by decide +kernel
set_option maxRecDepth 100000 in
set_option maxHeartbeats 4000000 in
theorem a_cM_15 : aLM_15.all (am_okM aOn aT) = true := by decide +kernel
set_option maxRecDepth 100000 in
set_option maxHeartbeats 4000000 in
theorem a_cM_16 : aLM_16.all (am_okM aOn aT) = true := by decide +kernel
set_option maxRecDepth 100000 in
set_option maxHeartbeats 4000000 in
theorem a_cM_17 : aLM_17.all (am_okM aOn aT) = true := by decide +kernel
set_option maxRecDepth 100000 in
set_option maxHeartbeats 4000000 in
theorem a_cM_18 : aLM_18.all (am_okM aOn aT) = true := by decide +kernel
theorem a_cM : aLM.all (am_okM aOn aT) = true := am_app a_cM_0 (am_app a_cM_1 (am_app a_cM_2 (am_app a_cM_3 (am_app a_cM_4 (am_app a_cM_5 (am_app a_cM_6 (am_app a_cM_7 (am_app a_cM_8 (am_app a_cM_9 (am_app a_cM_10 (am_app a_cM_11 (am_app a_cM_12 (am_app a_cM_13 (am_app a_cM_14 (am_app a_cM_15 (am_app a_cM_16 (am_app a_cM_17 (a_cM_18))))))))))))))))))
set_option maxRecDepth 100000 in
set_option maxHeartbeats 4000000 in
theorem a_cO_0 : am_cdE aT aLM_0 := rfl
set_option maxRecDepth 100000 in
set_option maxHeartbeats 4000000 in
theorem a_cO_1 : am_cdE aT aLM_1 := rfl
set_option maxRecDepth 100000 in
set_option maxHeartbeats 4000000 in
theorem a_cO_2 : am_cdE aT aLM_2 := rfl
set_option maxRecDepth 100000 in
set_option maxHeartbeats 4000000 in
theorem a_cO_3 : am_cdE aT aLM_3 := rfl
set_option maxRecDepth 100000 in
set_option maxHeartbeats 4000000 in
theorem a_cO_4 : am_cdE aT aLM_4 := rfl
set_option maxRecDepth 100000 in
set_option maxHeartbeats 4000000 in
theorem a_cO_5 : am_cdE aT aLM_5 := rfl
set_option maxRecDepth 100000 in
set_option maxHeartbeats 4000000 in
theorem a_cO_6 : am_cdE aT aLM_6 := rfl
set_option maxRecDepth 100000 in
set_option maxHeartbeats 4000000 in
theorem a_cO_7 : am_cdE aT aLM_7 := rfl
set_option maxRecDepth 100000 in
set_option maxHeartbeats 4000000 in
theorem a_cO_8 : am_cdE aT aLM_8 := rfl
set_option maxRecDepth 100000 in
set_option maxHeartbeats 4000000 in
theorem a_cO_9 : am_cdE aT aLM_9 := rfl
set_option maxRecDepth 100000 in
set_option maxHeartbeats 4000000 in
theorem a_cO_10 : am_cdE aT aLM_10 := rfl
set_option maxRecDepth 100000 in
set_option maxHeartbeats 4000000 in
theorem a_cO_11 : am_cdE aT aLM_11 := rfl
set_option maxRecDepth 100000 in
set_option maxHeartbeats 4000000 in
theorem a_cO_12 : am_cdE aT aLM_12 := rfl
set_option maxRecDepth 100000 in
set_option maxHeartbeats 4000000 in
theorem a_cO_13 : am_cdE aT aLM_13 := rfl
set_option maxRecDepth 100000 in
set_option maxHeartbeats 4000000 in
theorem a_cO_14 : am_cdE aT aLM_14 := rfl
set_option maxRecDepth 100000 in
set_option maxHeartbeats 4000000 in
theorem a_cO_15 : am_cdE aT aLM_15 := rfl
set_option maxRecDepth 100000 in
set_option maxHeartbeats 4000000 in
theorem a_cO_16 : am_cdE aT aLM_16 := rfl
set_option maxRecDepth 100000 in
set_option maxHeartbeats 4000000 in
theorem a_cO_17 : am_cdE aT aLM_17 := rfl
set_option maxRecDepth 100000 in
set_option maxHeartbeats 4000000 in
theorem a_cO_18 : am_cdE aT aLM_18 := rfl
