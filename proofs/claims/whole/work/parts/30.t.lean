/-! t -/
theorem mm_oh165 : mm_ckh mm_m165 = true := by decide +kernel
theorem mm_oc165_0 : mm_cks mm_ms (mm_My mm_m165) (mm_Mb mm_m165) (mm_Ml mm_m165) 0 (((mm_Mc mm_m165).drop 0).take 48) = true := by decide +kernel
theorem mm_oc165_1 : mm_cks mm_ms (mm_My mm_m165) (mm_Mb mm_m165) (mm_Ml mm_m165) 48 (((mm_Mc mm_m165).drop 48).take 48) = true := by decide +kernel
theorem mm_oc165_2 : mm_cks mm_ms (mm_My mm_m165) (mm_Mb mm_m165) (mm_Ml mm_m165) 96 (((mm_Mc mm_m165).drop 96).take 48) = true := by decide +kernel
theorem mm_oc165_3 : mm_cks mm_ms (mm_My mm_m165) (mm_Mb mm_m165) (mm_Ml mm_m165) 144 (((mm_Mc mm_m165).drop 144).take 48) = true := by decide +kernel
theorem mm_oc165_4 : mm_cks mm_ms (mm_My mm_m165) (mm_Mb mm_m165) (mm_Ml mm_m165) 192 (((mm_Mc mm_m165).drop 192).take 48) = true := by decide +kernel
theorem mm_oc165_5 : mm_cks mm_ms (mm_My mm_m165) (mm_Mb mm_m165) (mm_Ml mm_m165) 240 (((mm_Mc mm_m165).drop 240).take 48) = true := by decide +kernel
theorem mm_oc165_6 : mm_cks mm_ms (mm_My mm_m165) (mm_Mb mm_m165) (mm_Ml mm_m165) 288 (((mm_Mc mm_m165).drop 288).take 48) = true := by decide +kernel
theorem mm_oc165_7 : mm_cks mm_ms (mm_My mm_m165) (mm_Mb mm_m165) (mm_Ml mm_m165) 336 (((mm_Mc mm_m165).drop 336).take 48) = true := by decide +kernel
theorem mm_oc165_8 : mm_cks mm_ms (mm_My mm_m165) (mm_Mb mm_m165) (mm_Ml mm_m165) 384 (((mm_Mc mm_m165).drop 384).take 48) = true := by decide +kernel
theorem mm_oc165_9 : mm_cks mm_ms (mm_My mm_m165) (mm_Mb mm_m165) (mm_Ml mm_m165) 432 (((mm_Mc mm_m165).drop 432).take 48) = true := by decide +kernel
theorem mm_oc165_10 : mm_cks mm_ms (mm_My mm_m165) (mm_Mb mm_m165) (mm_Ml mm_m165) 480 (((mm_Mc mm_m165).drop 480).take 48) = true := by decide +kernel
theorem mm_oc165_11 : mm_cks mm_ms (mm_My mm_m165) (mm_Mb mm_m165) (mm_Ml mm_m165) 528 ((mm_Mc mm_m165).drop 528) = true := by decide +kernel
theorem mm_ok165 : mm_ckm mm_ms mm_m165 = true := mm_ckm_of mm_oh165 (mm_cks_seg 48 0 48 rfl mm_oc165_0 (mm_cks_seg 48 48 96 rfl mm_oc165_1 (mm_cks_seg 48 96 144 rfl mm_oc165_2 (mm_cks_seg 48 144 192 rfl mm_oc165_3 (mm_cks_seg 48 192 240 rfl mm_oc165_4 (mm_cks_seg 48 240 288 rfl mm_oc165_5 (mm_cks_seg 48 288 336 rfl mm_oc165_6 (mm_cks_seg 48 336 384 rfl mm_oc165_7 (mm_cks_seg 48 384 432 rfl mm_oc165_8 (mm_cks_seg 48 432 480 rfl mm_oc165_9 (mm_cks_seg 48 480 528 rfl mm_oc165_10 mm_oc165_11)))))))))))
