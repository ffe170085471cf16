/-! ===== the tables keep to what is asked (the kernel looks) ===== -/
theorem mm_oh0 : mm_ckh mm_m0 = true := by decide +kernel
theorem mm_oc0_0 : mm_cks mm_ms (mm_My mm_m0) (mm_Mb mm_m0) (mm_Ml mm_m0) 0 (((mm_Mc mm_m0).drop 0).take 48) = true := by decide +kernel
theorem mm_oc0_1 : mm_cks mm_ms (mm_My mm_m0) (mm_Mb mm_m0) (mm_Ml mm_m0) 48 (((mm_Mc mm_m0).drop 48).take 48) = true := by decide +kernel
theorem mm_oc0_2 : mm_cks mm_ms (mm_My mm_m0) (mm_Mb mm_m0) (mm_Ml mm_m0) 96 ((mm_Mc mm_m0).drop 96) = true := by decide +kernel
theorem mm_ok0 : mm_ckm mm_ms mm_m0 = true := mm_ckm_of mm_oh0 (mm_cks_seg 48 0 48 rfl mm_oc0_0 (mm_cks_seg 48 48 96 rfl mm_oc0_1 mm_oc0_2))
theorem mm_ok1 : mm_ckm mm_ms mm_m1 = true := by decide +kernel
theorem mm_oh2 : mm_ckh mm_m2 = true := by decide +kernel
theorem mm_oc2_0 : mm_cks mm_ms (mm_My mm_m2) (mm_Mb mm_m2) (mm_Ml mm_m2) 0 (((mm_Mc mm_m2).drop 0).take 48) = true := by decide +kernel
theorem mm_oc2_1 : mm_cks mm_ms (mm_My mm_m2) (mm_Mb mm_m2) (mm_Ml mm_m2) 48 (((mm_Mc mm_m2).drop 48).take 48) = true := by decide +kernel
theorem mm_oc2_2 : mm_cks mm_ms (mm_My mm_m2) (mm_Mb mm_m2) (mm_Ml mm_m2) 96 ((mm_Mc mm_m2).drop 96) = true := by decide +kernel
theorem mm_ok2 : mm_ckm mm_ms mm_m2 = true := mm_ckm_of mm_oh2 (mm_cks_seg 48 0 48 rfl mm_oc2_0 (mm_cks_seg 48 48 96 rfl mm_oc2_1 mm_oc2_2))
theorem mm_oh3 : mm_ckh mm_m3 = true := by decide +kernel
theorem mm_oc3_0 : mm_cks mm_ms (mm_My mm_m3) (mm_Mb mm_m3) (mm_Ml mm_m3) 0 (((mm_Mc mm_m3).drop 0).take 48) = true := by decide +kernel
theorem mm_oc3_1 : mm_cks mm_ms (mm_My mm_m3) (mm_Mb mm_m3) (mm_Ml mm_m3) 48 (((mm_Mc mm_m3).drop 48).take 48) = true := by decide +kernel
theorem mm_oc3_2 : mm_cks mm_ms (mm_My mm_m3) (mm_Mb mm_m3) (mm_Ml mm_m3) 96 (((mm_Mc mm_m3).drop 96).take 48) = true := by decide +kernel
theorem mm_oc3_3 : mm_cks mm_ms (mm_My mm_m3) (mm_Mb mm_m3) (mm_Ml mm_m3) 144 (((mm_Mc mm_m3).drop 144).take 48) = true := by decide +kernel
theorem mm_oc3_4 : mm_cks mm_ms (mm_My mm_m3) (mm_Mb mm_m3) (mm_Ml mm_m3) 192 (((mm_Mc mm_m3).drop 192).take 48) = true := by decide +kernel
theorem mm_oc3_5 : mm_cks mm_ms (mm_My mm_m3) (mm_Mb mm_m3) (mm_Ml mm_m3) 240 ((mm_Mc mm_m3).drop 240) = true := by decide +kernel
theorem mm_ok3 : mm_ckm mm_ms mm_m3 = true := mm_ckm_of mm_oh3 (mm_cks_seg 48 0 48 rfl mm_oc3_0 (mm_cks_seg 48 48 96 rfl mm_oc3_1 (mm_cks_seg 48 96 144 rfl mm_oc3_2 (mm_cks_seg 48 144 192 rfl mm_oc3_3 (mm_cks_seg 48 192 240 rfl mm_oc3_4 mm_oc3_5)))))
theorem mm_oh4 : mm_ckh mm_m4 = true := by decide +kernel
theorem mm_oc4_0 : mm_cks mm_ms (mm_My mm_m4) (mm_Mb mm_m4) (mm_Ml mm_m4) 0 (((mm_Mc mm_m4).drop 0).take 48) = true := by decide +kernel
theorem mm_oc4_1 : mm_cks mm_ms (mm_My mm_m4) (mm_Mb mm_m4) (mm_Ml mm_m4) 48 (((mm_Mc mm_m4).drop 48).take 48) = true := by decide +kernel
theorem mm_oc4_2 : mm_cks mm_ms (mm_My mm_m4) (mm_Mb mm_m4) (mm_Ml mm_m4) 96 ((mm_Mc mm_m4).drop 96) = true := by decide +kernel
theorem mm_ok4 : mm_ckm mm_ms mm_m4 = true := mm_ckm_of mm_oh4 (mm_cks_seg 48 0 48 rfl mm_oc4_0 (mm_cks_seg 48 48 96 rfl mm_oc4_1 mm_oc4_2))
theorem mm_ok5 : mm_ckm mm_ms mm_m5 = true := by decide +kernel
theorem mm_ok6 : mm_ckm mm_ms mm_m6 = true := by decide +kernel
theorem mm_ok7 : mm_ckm mm_ms mm_m7 = true := by decide +kernel
theorem mm_ok8 : mm_ckm mm_ms mm_m8 = true := by decide +kernel
theorem mm_ok9 : mm_ckm mm_ms mm_m9 = true := by decide +kernel
theorem mm_ok10 : mm_ckm mm_ms mm_m10 = true := by decide +kernel
theorem mm_oh11 : mm_ckh mm_m11 = true := by decide +kernel
theorem mm_oc11_0 : mm_cks mm_ms (mm_My mm_m11) (mm_Mb mm_m11) (mm_Ml mm_m11) 0 (((mm_Mc mm_m11).drop 0).take 48) = true := by decide +kernel
theorem mm_oc11_1 : mm_cks mm_ms (mm_My mm_m11) (mm_Mb mm_m11) (mm_Ml mm_m11) 48 (((mm_Mc mm_m11).drop 48).take 48) = true := by decide +kernel
theorem mm_oc11_2 : mm_cks mm_ms (mm_My mm_m11) (mm_Mb mm_m11) (mm_Ml mm_m11) 96 ((mm_Mc mm_m11).drop 96) = true := by decide +kernel
theorem mm_ok11 : mm_ckm mm_ms mm_m11 = true := mm_ckm_of mm_oh11 (mm_cks_seg 48 0 48 rfl mm_oc11_0 (mm_cks_seg 48 48 96 rfl mm_oc11_1 mm_oc11_2))
theorem mm_ok12 : mm_ckm mm_ms mm_m12 = true := by decide +kernel
theorem mm_ok13 : mm_ckm mm_ms mm_m13 = true := by decide +kernel
theorem mm_ok14 : mm_ckm mm_ms mm_m14 = true := by decide +kernel
theorem mm_ok15 : mm_ckm mm_ms mm_m15 = true := by decide +kernel
theorem mm_ok16 : mm_ckm mm_ms mm_m16 = true := by decide +kernel
theorem mm_ok17 : mm_ckm mm_ms mm_m17 = true := by decide +kernel
theorem mm_ok18 : mm_ckm mm_ms mm_m18 = true := by decide +kernel
theorem mm_ok19 : mm_ckm mm_ms mm_m19 = true := by decide +kernel
theorem mm_ok20 : mm_ckm mm_ms mm_m20 = true := by decide +kernel
theorem mm_ok21 : mm_ckm mm_ms mm_m21 = true := by decide +kernel
theorem mm_ok22 : mm_ckm mm_ms mm_m22 = true := by decide +kernel
theorem mm_ok23 : mm_ckm mm_ms mm_m23 = true := by decide +kernel
theorem mm_ok24 : mm_ckm mm_ms mm_m24 = true := by decide +kernel
theorem mm_ok25 : mm_ckm mm_ms mm_m25 = true := by decide +kernel
theorem mm_ok26 : mm_ckm mm_ms mm_m26 = true := by decide +kernel
theorem mm_ok27 : mm_ckm mm_ms mm_m27 = true := by decide +kernel
theorem mm_ok28 : mm_ckm mm_ms mm_m28 = true := by decide +kernel
theorem mm_ok29 : mm_ckm mm_ms mm_m29 = true := by decide +kernel
theorem mm_oh30 : mm_ckh mm_m30 = true := by decide +kernel
theorem mm_oc30_0 : mm_cks mm_ms (mm_My mm_m30) (mm_Mb mm_m30) (mm_Ml mm_m30) 0 (((mm_Mc mm_m30).drop 0).take 48) = true := by decide +kernel
theorem mm_oc30_1 : mm_cks mm_ms (mm_My mm_m30) (mm_Mb mm_m30) (mm_Ml mm_m30) 48 ((mm_Mc mm_m30).drop 48) = true := by decide +kernel
theorem mm_ok30 : mm_ckm mm_ms mm_m30 = true := mm_ckm_of mm_oh30 (mm_cks_seg 48 0 48 rfl mm_oc30_0 mm_oc30_1)
theorem mm_ok31 : mm_ckm mm_ms mm_m31 = true := by decide +kernel
theorem mm_oh32 : mm_ckh mm_m32 = true := by decide +kernel
theorem mm_oc32_0 : mm_cks mm_ms (mm_My mm_m32) (mm_Mb mm_m32) (mm_Ml mm_m32) 0 (((mm_Mc mm_m32).drop 0).take 48) = true := by decide +kernel
theorem mm_oc32_1 : mm_cks mm_ms (mm_My mm_m32) (mm_Mb mm_m32) (mm_Ml mm_m32) 48 ((mm_Mc mm_m32).drop 48) = true := by decide +kernel
theorem mm_ok32 : mm_ckm mm_ms mm_m32 = true := mm_ckm_of mm_oh32 (mm_cks_seg 48 0 48 rfl mm_oc32_0 mm_oc32_1)
theorem mm_oh33 : mm_ckh mm_m33 = true := by decide +kernel
theorem mm_oc33_0 : mm_cks mm_ms (mm_My mm_m33) (mm_Mb mm_m33) (mm_Ml mm_m33) 0 (((mm_Mc mm_m33).drop 0).take 48) = true := by decide +kernel
theorem mm_oc33_1 : mm_cks mm_ms (mm_My mm_m33) (mm_Mb mm_m33) (mm_Ml mm_m33) 48 ((mm_Mc mm_m33).drop 48) = true := by decide +kernel
theorem mm_ok33 : mm_ckm mm_ms mm_m33 = true := mm_ckm_of mm_oh33 (mm_cks_seg 48 0 48 rfl mm_oc33_0 mm_oc33_1)
theorem mm_ok34 : mm_ckm mm_ms mm_m34 = true := by decide +kernel
theorem mm_ok35 : mm_ckm mm_ms mm_m35 = true := by decide +kernel
theorem mm_ok36 : mm_ckm mm_ms mm_m36 = true := by decide +kernel
theorem mm_ok37 : mm_ckm mm_ms mm_m37 = true := by decide +kernel
theorem mm_ok38 : mm_ckm mm_ms mm_m38 = true := by decide +kernel
theorem mm_ok39 : mm_ckm mm_ms mm_m39 = true := by decide +kernel
theorem mm_ok40 : mm_ckm mm_ms mm_m40 = true := by decide +kernel
theorem mm_ok41 : mm_ckm mm_ms mm_m41 = true := by decide +kernel
theorem mm_ok42 : mm_ckm mm_ms mm_m42 = true := by decide +kernel
theorem mm_ok43 : mm_ckm mm_ms mm_m43 = true := by decide +kernel
theorem mm_ok44 : mm_ckm mm_ms mm_m44 = true := by decide +kernel
theorem mm_oh45 : mm_ckh mm_m45 = true := by decide +kernel
theorem mm_oc45_0 : mm_cks mm_ms (mm_My mm_m45) (mm_Mb mm_m45) (mm_Ml mm_m45) 0 (((mm_Mc mm_m45).drop 0).take 48) = true := by decide +kernel
theorem mm_oc45_1 : mm_cks mm_ms (mm_My mm_m45) (mm_Mb mm_m45) (mm_Ml mm_m45) 48 (((mm_Mc mm_m45).drop 48).take 48) = true := by decide +kernel
theorem mm_oc45_2 : mm_cks mm_ms (mm_My mm_m45) (mm_Mb mm_m45) (mm_Ml mm_m45) 96 (((mm_Mc mm_m45).drop 96).take 48) = true := by decide +kernel
theorem mm_oc45_3 : mm_cks mm_ms (mm_My mm_m45) (mm_Mb mm_m45) (mm_Ml mm_m45) 144 (((mm_Mc mm_m45).drop 144).take 48) = true := by decide +kernel
theorem mm_oc45_4 : mm_cks mm_ms (mm_My mm_m45) (mm_Mb mm_m45) (mm_Ml mm_m45) 192 (((mm_Mc mm_m45).drop 192).take 48) = true := by decide +kernel
theorem mm_oc45_5 : mm_cks mm_ms (mm_My mm_m45) (mm_Mb mm_m45) (mm_Ml mm_m45) 240 (((mm_Mc mm_m45).drop 240).take 48) = true := by decide +kernel
theorem mm_oc45_6 : mm_cks mm_ms (mm_My mm_m45) (mm_Mb mm_m45) (mm_Ml mm_m45) 288 ((mm_Mc mm_m45).drop 288) = true := by decide +kernel
theorem mm_ok45 : mm_ckm mm_ms mm_m45 = true := mm_ckm_of mm_oh45 (mm_cks_seg 48 0 48 rfl mm_oc45_0 (mm_cks_seg 48 48 96 rfl mm_oc45_1 (mm_cks_seg 48 96 144 rfl mm_oc45_2 (mm_cks_seg 48 144 192 rfl mm_oc45_3 (mm_cks_seg 48 192 240 rfl mm_oc45_4 (mm_cks_seg 48 240 288 rfl mm_oc45_5 mm_oc45_6))))))
theorem mm_ok46 : mm_ckm mm_ms mm_m46 = true := by decide +kernel
theorem mm_ok47 : mm_ckm mm_ms mm_m47 = true := by decide +kernel
theorem mm_oh48 : mm_ckh mm_m48 = true := by decide +kernel
theorem mm_oc48_0 : mm_cks mm_ms (mm_My mm_m48) (mm_Mb mm_m48) (mm_Ml mm_m48) 0 (((mm_Mc mm_m48).drop 0).take 48) = true := by decide +kernel
theorem mm_oc48_1 : mm_cks mm_ms (mm_My mm_m48) (mm_Mb mm_m48) (mm_Ml mm_m48) 48 (((mm_Mc mm_m48).drop 48).take 48) = true := by decide +kernel
theorem mm_oc48_2 : mm_cks mm_ms (mm_My mm_m48) (mm_Mb mm_m48) (mm_Ml mm_m48) 96 (((mm_Mc mm_m48).drop 96).take 48) = true := by decide +kernel
theorem mm_oc48_3 : mm_cks mm_ms (mm_My mm_m48) (mm_Mb mm_m48) (mm_Ml mm_m48) 144 ((mm_Mc mm_m48).drop 144) = true := by decide +kernel
theorem mm_ok48 : mm_ckm mm_ms mm_m48 = true := mm_ckm_of mm_oh48 (mm_cks_seg 48 0 48 rfl mm_oc48_0 (mm_cks_seg 48 48 96 rfl mm_oc48_1 (mm_cks_seg 48 96 144 rfl mm_oc48_2 mm_oc48_3)))
theorem mm_oh49 : mm_ckh mm_m49 = true := by decide +kernel
theorem mm_oc49_0 : mm_cks mm_ms (mm_My mm_m49) (mm_Mb mm_m49) (mm_Ml mm_m49) 0 (((mm_Mc mm_m49).drop 0).take 48) = true := by decide +kernel
theorem mm_oc49_1 : mm_cks mm_ms (mm_My mm_m49) (mm_Mb mm_m49) (mm_Ml mm_m49) 48 ((mm_Mc mm_m49).drop 48) = true := by decide +kernel
theorem mm_ok49 : mm_ckm mm_ms mm_m49 = true := mm_ckm_of mm_oh49 (mm_cks_seg 48 0 48 rfl mm_oc49_0 mm_oc49_1)
theorem mm_oh50 : mm_ckh mm_m50 = true := by decide +kernel
theorem mm_oc50_0 : mm_cks mm_ms (mm_My mm_m50) (mm_Mb mm_m50) (mm_Ml mm_m50) 0 (((mm_Mc mm_m50).drop 0).take 48) = true := by decide +kernel
theorem mm_oc50_1 : mm_cks mm_ms (mm_My mm_m50) (mm_Mb mm_m50) (mm_Ml mm_m50) 48 ((mm_Mc mm_m50).drop 48) = true := by decide +kernel
theorem mm_ok50 : mm_ckm mm_ms mm_m50 = true := mm_ckm_of mm_oh50 (mm_cks_seg 48 0 48 rfl mm_oc50_0 mm_oc50_1)
theorem mm_ok51 : mm_ckm mm_ms mm_m51 = true := by decide +kernel
theorem mm_ok52 : mm_ckm mm_ms mm_m52 = true := by decide +kernel
theorem mm_oh53 : mm_ckh mm_m53 = true := by decide +kernel
theorem mm_oc53_0 : mm_cks mm_ms (mm_My mm_m53) (mm_Mb mm_m53) (mm_Ml mm_m53) 0 (((mm_Mc mm_m53).drop 0).take 48) = true := by decide +kernel
theorem mm_oc53_1 : mm_cks mm_ms (mm_My mm_m53) (mm_Mb mm_m53) (mm_Ml mm_m53) 48 (((mm_Mc mm_m53).drop 48).take 48) = true := by decide +kernel
theorem mm_oc53_2 : mm_cks mm_ms (mm_My mm_m53) (mm_Mb mm_m53) (mm_Ml mm_m53) 96 ((mm_Mc mm_m53).drop 96) = true := by decide +kernel
theorem mm_ok53 : mm_ckm mm_ms mm_m53 = true := mm_ckm_of mm_oh53 (mm_cks_seg 48 0 48 rfl mm_oc53_0 (mm_cks_seg 48 48 96 rfl mm_oc53_1 mm_oc53_2))
theorem mm_oh54 : mm_ckh mm_m54 = true := by decide +kernel
theorem mm_oc54_0 : mm_cks mm_ms (mm_My mm_m54) (mm_Mb mm_m54) (mm_Ml mm_m54) 0 (((mm_Mc mm_m54).drop 0).take 48) = true := by decide +kernel
theorem mm_oc54_1 : mm_cks mm_ms (mm_My mm_m54) (mm_Mb mm_m54) (mm_Ml mm_m54) 48 (((mm_Mc mm_m54).drop 48).take 48) = true := by decide +kernel
theorem mm_oc54_2 : mm_cks mm_ms (mm_My mm_m54) (mm_Mb mm_m54) (mm_Ml mm_m54) 96 ((mm_Mc mm_m54).drop 96) = true := by decide +kernel
theorem mm_ok54 : mm_ckm mm_ms mm_m54 = true := mm_ckm_of mm_oh54 (mm_cks_seg 48 0 48 rfl mm_oc54_0 (mm_cks_seg 48 48 96 rfl mm_oc54_1 mm_oc54_2))
theorem mm_ok55 : mm_ckm mm_ms mm_m55 = true := by decide +kernel
theorem mm_ok56 : mm_ckm mm_ms mm_m56 = true := by decide +kernel
theorem mm_ok57 : mm_ckm mm_ms mm_m57 = true := by decide +kernel
theorem mm_ok58 : mm_ckm mm_ms mm_m58 = true := by decide +kernel
theorem mm_ok59 : mm_ckm mm_ms mm_m59 = true := by decide +kernel
theorem mm_ok60 : mm_ckm mm_ms mm_m60 = true := by decide +kernel
theorem mm_ok61 : mm_ckm mm_ms mm_m61 = true := by decide +kernel
theorem mm_ok62 : mm_ckm mm_ms mm_m62 = true := by decide +kernel
theorem mm_ok63 : mm_ckm mm_ms mm_m63 = true := by decide +kernel
theorem mm_ok64 : mm_ckm mm_ms mm_m64 = true := by decide +kernel
theorem mm_ok65 : mm_ckm mm_ms mm_m65 = true := by decide +kernel
theorem mm_oh66 : mm_ckh mm_m66 = true := by decide +kernel
theorem mm_oc66_0 : mm_cks mm_ms (mm_My mm_m66) (mm_Mb mm_m66) (mm_Ml mm_m66) 0 (((mm_Mc mm_m66).drop 0).take 48) = true := by decide +kernel
theorem mm_oc66_1 : mm_cks mm_ms (mm_My mm_m66) (mm_Mb mm_m66) (mm_Ml mm_m66) 48 (((mm_Mc mm_m66).drop 48).take 48) = true := by decide +kernel
theorem mm_oc66_2 : mm_cks mm_ms (mm_My mm_m66) (mm_Mb mm_m66) (mm_Ml mm_m66) 96 ((mm_Mc mm_m66).drop 96) = true := by decide +kernel
theorem mm_ok66 : mm_ckm mm_ms mm_m66 = true := mm_ckm_of mm_oh66 (mm_cks_seg 48 0 48 rfl mm_oc66_0 (mm_cks_seg 48 48 96 rfl mm_oc66_1 mm_oc66_2))
theorem mm_oh67 : mm_ckh mm_m67 = true := by decide +kernel
theorem mm_oc67_0 : mm_cks mm_ms (mm_My mm_m67) (mm_Mb mm_m67) (mm_Ml mm_m67) 0 (((mm_Mc mm_m67).drop 0).take 48) = true := by decide +kernel
theorem mm_oc67_1 : mm_cks mm_ms (mm_My mm_m67) (mm_Mb mm_m67) (mm_Ml mm_m67) 48 ((mm_Mc mm_m67).drop 48) = true := by decide +kernel
theorem mm_ok67 : mm_ckm mm_ms mm_m67 = true := mm_ckm_of mm_oh67 (mm_cks_seg 48 0 48 rfl mm_oc67_0 mm_oc67_1)
theorem mm_oh68 : mm_ckh mm_m68 = true := by decide +kernel
theorem mm_oc68_0 : mm_cks mm_ms (mm_My mm_m68) (mm_Mb mm_m68) (mm_Ml mm_m68) 0 (((mm_Mc mm_m68).drop 0).take 48) = true := by decide +kernel
theorem mm_oc68_1 : mm_cks mm_ms (mm_My mm_m68) (mm_Mb mm_m68) (mm_Ml mm_m68) 48 ((mm_Mc mm_m68).drop 48) = true := by decide +kernel
theorem mm_ok68 : mm_ckm mm_ms mm_m68 = true := mm_ckm_of mm_oh68 (mm_cks_seg 48 0 48 rfl mm_oc68_0 mm_oc68_1)
theorem mm_oh69 : mm_ckh mm_m69 = true := by decide +kernel
theorem mm_oc69_0 : mm_cks mm_ms (mm_My mm_m69) (mm_Mb mm_m69) (mm_Ml mm_m69) 0 (((mm_Mc mm_m69).drop 0).take 48) = true := by decide +kernel
theorem mm_oc69_1 : mm_cks mm_ms (mm_My mm_m69) (mm_Mb mm_m69) (mm_Ml mm_m69) 48 (((mm_Mc mm_m69).drop 48).take 48) = true := by decide +kernel
theorem mm_oc69_2 : mm_cks mm_ms (mm_My mm_m69) (mm_Mb mm_m69) (mm_Ml mm_m69) 96 ((mm_Mc mm_m69).drop 96) = true := by decide +kernel
theorem mm_ok69 : mm_ckm mm_ms mm_m69 = true := mm_ckm_of mm_oh69 (mm_cks_seg 48 0 48 rfl mm_oc69_0 (mm_cks_seg 48 48 96 rfl mm_oc69_1 mm_oc69_2))
theorem mm_ok70 : mm_ckm mm_ms mm_m70 = true := by decide +kernel
theorem mm_oh71 : mm_ckh mm_m71 = true := by decide +kernel
theorem mm_oc71_0 : mm_cks mm_ms (mm_My mm_m71) (mm_Mb mm_m71) (mm_Ml mm_m71) 0 (((mm_Mc mm_m71).drop 0).take 48) = true := by decide +kernel
theorem mm_oc71_1 : mm_cks mm_ms (mm_My mm_m71) (mm_Mb mm_m71) (mm_Ml mm_m71) 48 ((mm_Mc mm_m71).drop 48) = true := by decide +kernel
theorem mm_ok71 : mm_ckm mm_ms mm_m71 = true := mm_ckm_of mm_oh71 (mm_cks_seg 48 0 48 rfl mm_oc71_0 mm_oc71_1)
theorem mm_ok72 : mm_ckm mm_ms mm_m72 = true := by decide +kernel
theorem mm_ok73 : mm_ckm mm_ms mm_m73 = true := by decide +kernel
theorem mm_oh74 : mm_ckh mm_m74 = true := by decide +kernel
theorem mm_oc74_0 : mm_cks mm_ms (mm_My mm_m74) (mm_Mb mm_m74) (mm_Ml mm_m74) 0 (((mm_Mc mm_m74).drop 0).take 48) = true := by decide +kernel
theorem mm_oc74_1 : mm_cks mm_ms (mm_My mm_m74) (mm_Mb mm_m74) (mm_Ml mm_m74) 48 (((mm_Mc mm_m74).drop 48).take 48) = true := by decide +kernel
theorem mm_oc74_2 : mm_cks mm_ms (mm_My mm_m74) (mm_Mb mm_m74) (mm_Ml mm_m74) 96 (((mm_Mc mm_m74).drop 96).take 48) = true := by decide +kernel
theorem mm_oc74_3 : mm_cks mm_ms (mm_My mm_m74) (mm_Mb mm_m74) (mm_Ml mm_m74) 144 (((mm_Mc mm_m74).drop 144).take 48) = true := by decide +kernel
theorem mm_oc74_4 : mm_cks mm_ms (mm_My mm_m74) (mm_Mb mm_m74) (mm_Ml mm_m74) 192 ((mm_Mc mm_m74).drop 192) = true := by decide +kernel
theorem mm_ok74 : mm_ckm mm_ms mm_m74 = true := mm_ckm_of mm_oh74 (mm_cks_seg 48 0 48 rfl mm_oc74_0 (mm_cks_seg 48 48 96 rfl mm_oc74_1 (mm_cks_seg 48 96 144 rfl mm_oc74_2 (mm_cks_seg 48 144 192 rfl mm_oc74_3 mm_oc74_4))))
theorem mm_ok75 : mm_ckm mm_ms mm_m75 = true := by decide +kernel
theorem mm_ok76 : mm_ckm mm_ms mm_m76 = true := by decide +kernel
theorem mm_ok77 : mm_ckm mm_ms mm_m77 = true := by decide +kernel
theorem mm_ok78 : mm_ckm mm_ms mm_m78 = true := by decide +kernel
theorem mm_oh79 : mm_ckh mm_m79 = true := by decide +kernel
theorem mm_oc79_0 : mm_cks mm_ms (mm_My mm_m79) (mm_Mb mm_m79) (mm_Ml mm_m79) 0 (((mm_Mc mm_m79).drop 0).take 48) = true := by decide +kernel
theorem mm_oc79_1 : mm_cks mm_ms (mm_My mm_m79) (mm_Mb mm_m79) (mm_Ml mm_m79) 48 ((mm_Mc mm_m79).drop 48) = true := by decide +kernel
theorem mm_ok79 : mm_ckm mm_ms mm_m79 = true := mm_ckm_of mm_oh79 (mm_cks_seg 48 0 48 rfl mm_oc79_0 mm_oc79_1)
theorem mm_oh80 : mm_ckh mm_m80 = true := by decide +kernel
theorem mm_oc80_0 : mm_cks mm_ms (mm_My mm_m80) (mm_Mb mm_m80) (mm_Ml mm_m80) 0 (((mm_Mc mm_m80).drop 0).take 48) = true := by decide +kernel
theorem mm_oc80_1 : mm_cks mm_ms (mm_My mm_m80) (mm_Mb mm_m80) (mm_Ml mm_m80) 48 (((mm_Mc mm_m80).drop 48).take 48) = true := by decide +kernel
theorem mm_oc80_2 : mm_cks mm_ms (mm_My mm_m80) (mm_Mb mm_m80) (mm_Ml mm_m80) 96 (((mm_Mc mm_m80).drop 96).take 48) = true := by decide +kernel
theorem mm_oc80_3 : mm_cks mm_ms (mm_My mm_m80) (mm_Mb mm_m80) (mm_Ml mm_m80) 144 ((mm_Mc mm_m80).drop 144) = true := by decide +kernel
theorem mm_ok80 : mm_ckm mm_ms mm_m80 = true := mm_ckm_of mm_oh80 (mm_cks_seg 48 0 48 rfl mm_oc80_0 (mm_cks_seg 48 48 96 rfl mm_oc80_1 (mm_cks_seg 48 96 144 rfl mm_oc80_2 mm_oc80_3)))
theorem mm_oh81 : mm_ckh mm_m81 = true := by decide +kernel
theorem mm_oc81_0 : mm_cks mm_ms (mm_My mm_m81) (mm_Mb mm_m81) (mm_Ml mm_m81) 0 (((mm_Mc mm_m81).drop 0).take 48) = true := by decide +kernel
theorem mm_oc81_1 : mm_cks mm_ms (mm_My mm_m81) (mm_Mb mm_m81) (mm_Ml mm_m81) 48 (((mm_Mc mm_m81).drop 48).take 48) = true := by decide +kernel
theorem mm_oc81_2 : mm_cks mm_ms (mm_My mm_m81) (mm_Mb mm_m81) (mm_Ml mm_m81) 96 (((mm_Mc mm_m81).drop 96).take 48) = true := by decide +kernel
theorem mm_oc81_3 : mm_cks mm_ms (mm_My mm_m81) (mm_Mb mm_m81) (mm_Ml mm_m81) 144 ((mm_Mc mm_m81).drop 144) = true := by decide +kernel
theorem mm_ok81 : mm_ckm mm_ms mm_m81 = true := mm_ckm_of mm_oh81 (mm_cks_seg 48 0 48 rfl mm_oc81_0 (mm_cks_seg 48 48 96 rfl mm_oc81_1 (mm_cks_seg 48 96 144 rfl mm_oc81_2 mm_oc81_3)))
theorem mm_ok82 : mm_ckm mm_ms mm_m82 = true := by decide +kernel
theorem mm_ok83 : mm_ckm mm_ms mm_m83 = true := by decide +kernel
theorem mm_ok84 : mm_ckm mm_ms mm_m84 = true := by decide +kernel
theorem mm_ok85 : mm_ckm mm_ms mm_m85 = true := by decide +kernel
theorem mm_ok86 : mm_ckm mm_ms mm_m86 = true := by decide +kernel
theorem mm_ok87 : mm_ckm mm_ms mm_m87 = true := by decide +kernel
theorem mm_ok88 : mm_ckm mm_ms mm_m88 = true := by decide +kernel
theorem mm_ok89 : mm_ckm mm_ms mm_m89 = true := by decide +kernel
theorem mm_ok90 : mm_ckm mm_ms mm_m90 = true := by decide +kernel
theorem mm_ok91 : mm_ckm mm_ms mm_m91 = true := by decide +kernel
theorem mm_ok92 : mm_ckm mm_ms mm_m92 = true := by decide +kernel
theorem mm_ok93 : mm_ckm mm_ms mm_m93 = true := by decide +kernel
theorem mm_ok94 : mm_ckm mm_ms mm_m94 = true := by decide +kernel
theorem mm_ok95 : mm_ckm mm_ms mm_m95 = true := by decide +kernel
theorem mm_ok96 : mm_ckm mm_ms mm_m96 = true := by decide +kernel
theorem mm_ok97 : mm_ckm mm_ms mm_m97 = true := by decide +kernel
theorem mm_oh98 : mm_ckh mm_m98 = true := by decide +kernel
theorem mm_oc98_0 : mm_cks mm_ms (mm_My mm_m98) (mm_Mb mm_m98) (mm_Ml mm_m98) 0 (((mm_Mc mm_m98).drop 0).take 48) = true := by decide +kernel
theorem mm_oc98_1 : mm_cks mm_ms (mm_My mm_m98) (mm_Mb mm_m98) (mm_Ml mm_m98) 48 ((mm_Mc mm_m98).drop 48) = true := by decide +kernel
theorem mm_ok98 : mm_ckm mm_ms mm_m98 = true := mm_ckm_of mm_oh98 (mm_cks_seg 48 0 48 rfl mm_oc98_0 mm_oc98_1)
theorem mm_ok99 : mm_ckm mm_ms mm_m99 = true := by decide +kernel
theorem mm_oh100 : mm_ckh mm_m100 = true := by decide +kernel
theorem mm_oc100_0 : mm_cks mm_ms (mm_My mm_m100) (mm_Mb mm_m100) (mm_Ml mm_m100) 0 (((mm_Mc mm_m100).drop 0).take 48) = true := by decide +kernel
theorem mm_oc100_1 : mm_cks mm_ms (mm_My mm_m100) (mm_Mb mm_m100) (mm_Ml mm_m100) 48 ((mm_Mc mm_m100).drop 48) = true := by decide +kernel
theorem mm_ok100 : mm_ckm mm_ms mm_m100 = true := mm_ckm_of mm_oh100 (mm_cks_seg 48 0 48 rfl mm_oc100_0 mm_oc100_1)
theorem mm_ok101 : mm_ckm mm_ms mm_m101 = true := by decide +kernel
theorem mm_oh102 : mm_ckh mm_m102 = true := by decide +kernel
theorem mm_oc102_0 : mm_cks mm_ms (mm_My mm_m102) (mm_Mb mm_m102) (mm_Ml mm_m102) 0 (((mm_Mc mm_m102).drop 0).take 48) = true := by decide +kernel
theorem mm_oc102_1 : mm_cks mm_ms (mm_My mm_m102) (mm_Mb mm_m102) (mm_Ml mm_m102) 48 (((mm_Mc mm_m102).drop 48).take 48) = true := by decide +kernel
theorem mm_oc102_2 : mm_cks mm_ms (mm_My mm_m102) (mm_Mb mm_m102) (mm_Ml mm_m102) 96 ((mm_Mc mm_m102).drop 96) = true := by decide +kernel
theorem mm_ok102 : mm_ckm mm_ms mm_m102 = true := mm_ckm_of mm_oh102 (mm_cks_seg 48 0 48 rfl mm_oc102_0 (mm_cks_seg 48 48 96 rfl mm_oc102_1 mm_oc102_2))
theorem mm_ok103 : mm_ckm mm_ms mm_m103 = true := by decide +kernel
theorem mm_oh104 : mm_ckh mm_m104 = true := by decide +kernel
theorem mm_oc104_0 : mm_cks mm_ms (mm_My mm_m104) (mm_Mb mm_m104) (mm_Ml mm_m104) 0 (((mm_Mc mm_m104).drop 0).take 48) = true := by decide +kernel
theorem mm_oc104_1 : mm_cks mm_ms (mm_My mm_m104) (mm_Mb mm_m104) (mm_Ml mm_m104) 48 (((mm_Mc mm_m104).drop 48).take 48) = true := by decide +kernel
theorem mm_oc104_2 : mm_cks mm_ms (mm_My mm_m104) (mm_Mb mm_m104) (mm_Ml mm_m104) 96 ((mm_Mc mm_m104).drop 96) = true := by decide +kernel
theorem mm_ok104 : mm_ckm mm_ms mm_m104 = true := mm_ckm_of mm_oh104 (mm_cks_seg 48 0 48 rfl mm_oc104_0 (mm_cks_seg 48 48 96 rfl mm_oc104_1 mm_oc104_2))
theorem mm_ok105 : mm_ckm mm_ms mm_m105 = true := by decide +kernel
theorem mm_ok106 : mm_ckm mm_ms mm_m106 = true := by decide +kernel
theorem mm_ok107 : mm_ckm mm_ms mm_m107 = true := by decide +kernel
theorem mm_oh108 : mm_ckh mm_m108 = true := by decide +kernel
theorem mm_oc108_0 : mm_cks mm_ms (mm_My mm_m108) (mm_Mb mm_m108) (mm_Ml mm_m108) 0 (((mm_Mc mm_m108).drop 0).take 48) = true := by decide +kernel
theorem mm_oc108_1 : mm_cks mm_ms (mm_My mm_m108) (mm_Mb mm_m108) (mm_Ml mm_m108) 48 ((mm_Mc mm_m108).drop 48) = true := by decide +kernel
theorem mm_ok108 : mm_ckm mm_ms mm_m108 = true := mm_ckm_of mm_oh108 (mm_cks_seg 48 0 48 rfl mm_oc108_0 mm_oc108_1)
theorem mm_ok109 : mm_ckm mm_ms mm_m109 = true := by decide +kernel
theorem mm_ok110 : mm_ckm mm_ms mm_m110 = true := by decide +kernel
theorem mm_ok111 : mm_ckm mm_ms mm_m111 = true := by decide +kernel
theorem mm_ok112 : mm_ckm mm_ms mm_m112 = true := by decide +kernel
theorem mm_ok113 : mm_ckm mm_ms mm_m113 = true := by decide +kernel
theorem mm_ok114 : mm_ckm mm_ms mm_m114 = true := by decide +kernel
theorem mm_oh115 : mm_ckh mm_m115 = true := by decide +kernel
theorem mm_oc115_0 : mm_cks mm_ms (mm_My mm_m115) (mm_Mb mm_m115) (mm_Ml mm_m115) 0 (((mm_Mc mm_m115).drop 0).take 48) = true := by decide +kernel
theorem mm_oc115_1 : mm_cks mm_ms (mm_My mm_m115) (mm_Mb mm_m115) (mm_Ml mm_m115) 48 ((mm_Mc mm_m115).drop 48) = true := by decide +kernel
theorem mm_ok115 : mm_ckm mm_ms mm_m115 = true := mm_ckm_of mm_oh115 (mm_cks_seg 48 0 48 rfl mm_oc115_0 mm_oc115_1)
theorem mm_ok116 : mm_ckm mm_ms mm_m116 = true := by decide +kernel
theorem mm_ok117 : mm_ckm mm_ms mm_m117 = true := by decide +kernel
theorem mm_ok118 : mm_ckm mm_ms mm_m118 = true := by decide +kernel
theorem mm_ok119 : mm_ckm mm_ms mm_m119 = true := by decide +kernel
theorem mm_ok120 : mm_ckm mm_ms mm_m120 = true := by decide +kernel
theorem mm_ok121 : mm_ckm mm_ms mm_m121 = true := by decide +kernel
theorem mm_ok122 : mm_ckm mm_ms mm_m122 = true := by decide +kernel
theorem mm_ok123 : mm_ckm mm_ms mm_m123 = true := by decide +kernel
theorem mm_ok124 : mm_ckm mm_ms mm_m124 = true := by decide +kernel
theorem mm_ok125 : mm_ckm mm_ms mm_m125 = true := by decide +kernel
theorem mm_ok126 : mm_ckm mm_ms mm_m126 = true := by decide +kernel
theorem mm_ok127 : mm_ckm mm_ms mm_m127 = true := by decide +kernel
theorem mm_ok128 : mm_ckm mm_ms mm_m128 = true := by decide +kernel
theorem mm_ok129 : mm_ckm mm_ms mm_m129 = true := by decide +kernel
theorem mm_ok130 : mm_ckm mm_ms mm_m130 = true := by decide +kernel
theorem mm_ok131 : mm_ckm mm_ms mm_m131 = true := by decide +kernel
theorem mm_ok132 : mm_ckm mm_ms mm_m132 = true := by decide +kernel
theorem mm_ok133 : mm_ckm mm_ms mm_m133 = true := by decide +kernel
theorem mm_ok134 : mm_ckm mm_ms mm_m134 = true := by decide +kernel
theorem mm_ok135 : mm_ckm mm_ms mm_m135 = true := by decide +kernel
theorem mm_oh136 : mm_ckh mm_m136 = true := by decide +kernel
theorem mm_oc136_0 : mm_cks mm_ms (mm_My mm_m136) (mm_Mb mm_m136) (mm_Ml mm_m136) 0 (((mm_Mc mm_m136).drop 0).take 48) = true := by decide +kernel
theorem mm_oc136_1 : mm_cks mm_ms (mm_My mm_m136) (mm_Mb mm_m136) (mm_Ml mm_m136) 48 ((mm_Mc mm_m136).drop 48) = true := by decide +kernel
theorem mm_ok136 : mm_ckm mm_ms mm_m136 = true := mm_ckm_of mm_oh136 (mm_cks_seg 48 0 48 rfl mm_oc136_0 mm_oc136_1)
theorem mm_oh137 : mm_ckh mm_m137 = true := by decide +kernel
theorem mm_oc137_0 : mm_cks mm_ms (mm_My mm_m137) (mm_Mb mm_m137) (mm_Ml mm_m137) 0 (((mm_Mc mm_m137).drop 0).take 48) = true := by decide +kernel
theorem mm_oc137_1 : mm_cks mm_ms (mm_My mm_m137) (mm_Mb mm_m137) (mm_Ml mm_m137) 48 ((mm_Mc mm_m137).drop 48) = true := by decide +kernel
theorem mm_ok137 : mm_ckm mm_ms mm_m137 = true := mm_ckm_of mm_oh137 (mm_cks_seg 48 0 48 rfl mm_oc137_0 mm_oc137_1)
theorem mm_ok138 : mm_ckm mm_ms mm_m138 = true := by decide +kernel
theorem mm_ok139 : mm_ckm mm_ms mm_m139 = true := by decide +kernel
theorem mm_oh140 : mm_ckh mm_m140 = true := by decide +kernel
theorem mm_oc140_0 : mm_cks mm_ms (mm_My mm_m140) (mm_Mb mm_m140) (mm_Ml mm_m140) 0 (((mm_Mc mm_m140).drop 0).take 48) = true := by decide +kernel
theorem mm_oc140_1 : mm_cks mm_ms (mm_My mm_m140) (mm_Mb mm_m140) (mm_Ml mm_m140) 48 (((mm_Mc mm_m140).drop 48).take 48) = true := by decide +kernel
theorem mm_oc140_2 : mm_cks mm_ms (mm_My mm_m140) (mm_Mb mm_m140) (mm_Ml mm_m140) 96 (((mm_Mc mm_m140).drop 96).take 48) = true := by decide +kernel
theorem mm_oc140_3 : mm_cks mm_ms (mm_My mm_m140) (mm_Mb mm_m140) (mm_Ml mm_m140) 144 ((mm_Mc mm_m140).drop 144) = true := by decide +kernel
theorem mm_ok140 : mm_ckm mm_ms mm_m140 = true := mm_ckm_of mm_oh140 (mm_cks_seg 48 0 48 rfl mm_oc140_0 (mm_cks_seg 48 48 96 rfl mm_oc140_1 (mm_cks_seg 48 96 144 rfl mm_oc140_2 mm_oc140_3)))
theorem mm_ok141 : mm_ckm mm_ms mm_m141 = true := by decide +kernel
theorem mm_ok142 : mm_ckm mm_ms mm_m142 = true := by decide +kernel
theorem mm_ok143 : mm_ckm mm_ms mm_m143 = true := by decide +kernel
theorem mm_oh144 : mm_ckh mm_m144 = true := by decide +kernel
theorem mm_oc144_0 : mm_cks mm_ms (mm_My mm_m144) (mm_Mb mm_m144) (mm_Ml mm_m144) 0 (((mm_Mc mm_m144).drop 0).take 48) = true := by decide +kernel
theorem mm_oc144_1 : mm_cks mm_ms (mm_My mm_m144) (mm_Mb mm_m144) (mm_Ml mm_m144) 48 ((mm_Mc mm_m144).drop 48) = true := by decide +kernel
theorem mm_ok144 : mm_ckm mm_ms mm_m144 = true := mm_ckm_of mm_oh144 (mm_cks_seg 48 0 48 rfl mm_oc144_0 mm_oc144_1)
theorem mm_oh145 : mm_ckh mm_m145 = true := by decide +kernel
theorem mm_oc145_0 : mm_cks mm_ms (mm_My mm_m145) (mm_Mb mm_m145) (mm_Ml mm_m145) 0 (((mm_Mc mm_m145).drop 0).take 48) = true := by decide +kernel
theorem mm_oc145_1 : mm_cks mm_ms (mm_My mm_m145) (mm_Mb mm_m145) (mm_Ml mm_m145) 48 (((mm_Mc mm_m145).drop 48).take 48) = true := by decide +kernel
theorem mm_oc145_2 : mm_cks mm_ms (mm_My mm_m145) (mm_Mb mm_m145) (mm_Ml mm_m145) 96 ((mm_Mc mm_m145).drop 96) = true := by decide +kernel
theorem mm_ok145 : mm_ckm mm_ms mm_m145 = true := mm_ckm_of mm_oh145 (mm_cks_seg 48 0 48 rfl mm_oc145_0 (mm_cks_seg 48 48 96 rfl mm_oc145_1 mm_oc145_2))
theorem mm_ok146 : mm_ckm mm_ms mm_m146 = true := by decide +kernel
theorem mm_oh147 : mm_ckh mm_m147 = true := by decide +kernel
theorem mm_oc147_0 : mm_cks mm_ms (mm_My mm_m147) (mm_Mb mm_m147) (mm_Ml mm_m147) 0 (((mm_Mc mm_m147).drop 0).take 48) = true := by decide +kernel
theorem mm_oc147_1 : mm_cks mm_ms (mm_My mm_m147) (mm_Mb mm_m147) (mm_Ml mm_m147) 48 (((mm_Mc mm_m147).drop 48).take 48) = true := by decide +kernel
theorem mm_oc147_2 : mm_cks mm_ms (mm_My mm_m147) (mm_Mb mm_m147) (mm_Ml mm_m147) 96 ((mm_Mc mm_m147).drop 96) = true := by decide +kernel
theorem mm_ok147 : mm_ckm mm_ms mm_m147 = true := mm_ckm_of mm_oh147 (mm_cks_seg 48 0 48 rfl mm_oc147_0 (mm_cks_seg 48 48 96 rfl mm_oc147_1 mm_oc147_2))
theorem mm_ok148 : mm_ckm mm_ms mm_m148 = true := by decide +kernel
theorem mm_ok149 : mm_ckm mm_ms mm_m149 = true := by decide +kernel
theorem mm_ok150 : mm_ckm mm_ms mm_m150 = true := by decide +kernel
theorem mm_ok151 : mm_ckm mm_ms mm_m151 = true := by decide +kernel
theorem mm_ok152 : mm_ckm mm_ms mm_m152 = true := by decide +kernel
theorem mm_ok153 : mm_ckm mm_ms mm_m153 = true := by decide +kernel
theorem mm_ok154 : mm_ckm mm_ms mm_m154 = true := by decide +kernel
theorem mm_ok155 : mm_ckm mm_ms mm_m155 = true := by decide +kernel
theorem mm_ok156 : mm_ckm mm_ms mm_m156 = true := by decide +kernel
theorem mm_ok157 : mm_ckm mm_ms mm_m157 = true := by decide +kernel
theorem mm_ok158 : mm_ckm mm_ms mm_m158 = true := by decide +kernel
theorem mm_ok159 : mm_ckm mm_ms mm_m159 = true := by decide +kernel
theorem mm_ok160 : mm_ckm mm_ms mm_m160 = true := by decide +kernel
theorem mm_ok161 : mm_ckm mm_ms mm_m161 = true := by decide +kernel
theorem mm_oh162 : mm_ckh mm_m162 = true := by decide +kernel
theorem mm_oc162_0 : mm_cks mm_ms (mm_My mm_m162) (mm_Mb mm_m162) (mm_Ml mm_m162) 0 (((mm_Mc mm_m162).drop 0).take 48) = true := by decide +kernel
theorem mm_oc162_1 : mm_cks mm_ms (mm_My mm_m162) (mm_Mb mm_m162) (mm_Ml mm_m162) 48 ((mm_Mc mm_m162).drop 48) = true := by decide +kernel
theorem mm_ok162 : mm_ckm mm_ms mm_m162 = true := mm_ckm_of mm_oh162 (mm_cks_seg 48 0 48 rfl mm_oc162_0 mm_oc162_1)
theorem mm_oh163 : mm_ckh mm_m163 = true := by decide +kernel
theorem mm_oc163_0 : mm_cks mm_ms (mm_My mm_m163) (mm_Mb mm_m163) (mm_Ml mm_m163) 0 (((mm_Mc mm_m163).drop 0).take 48) = true := by decide +kernel
theorem mm_oc163_1 : mm_cks mm_ms (mm_My mm_m163) (mm_Mb mm_m163) (mm_Ml mm_m163) 48 ((mm_Mc mm_m163).drop 48) = true := by decide +kernel
theorem mm_ok163 : mm_ckm mm_ms mm_m163 = true := mm_ckm_of mm_oh163 (mm_cks_seg 48 0 48 rfl mm_oc163_0 mm_oc163_1)
theorem mm_ok164 : mm_ckm mm_ms mm_m164 = true := by decide +kernel
theorem mm_oh165 : mm_ckh mm_m165 = true := by decide +kernel
theorem mm_oc165_0 : mm_cks mm_ms (mm_My mm_m165) (mm_Mb mm_m165) (mm_Ml mm_m165) 0 (((mm_Mc mm_m165).drop 0).take 48) = true := by decide +kernel
theorem mm_oc165_1 : mm_cks mm_ms (mm_My mm_m165) (mm_Mb mm_m165) (mm_Ml mm_m165) 48 (((mm_Mc mm_m165).drop 48).take 48) = true := by decide +kernel
theorem mm_oc165_2 : mm_cks mm_ms (mm_My mm_m165) (mm_Mb mm_m165) (mm_Ml mm_m165) 96 (((mm_Mc mm_m165).drop 96).take 48) = true := by decide +kernel
theorem mm_oc165_3 : mm_cks mm_ms (mm_My mm_m165) (mm_Mb mm_m165) (mm_Ml mm_m165) 144 (((mm_Mc mm_m165).drop 144).take 48) = true := by decide +kernel
theorem mm_oc165_4 : mm_cks mm_ms (mm_My mm_m165) (mm_Mb mm_m165) (mm_Ml mm_m165) 192 (((mm_Mc mm_m165).drop 192).take 48) = true := by decide +kernel
theorem mm_oc165_5 : mm_cks mm_ms (mm_My mm_m165) (mm_Mb mm_m165) (mm_Ml mm_m165) 240 (((mm_Mc mm_m165).drop 240).take 48) = true := by decide +kernel
theorem mm_oc165_6 : mm_cks mm_ms (mm_My mm_m165) (mm_Mb mm_m165) (mm_Ml mm_m165) 288 (((mm_Mc mm_m165).drop 288).take 48) = true := by decide +kernel
theorem mm_oc165_7 : mm_cks mm_ms (mm_My mm_m165) (mm_Mb mm_m165) (mm_Ml mm_m165) 336 (((mm_Mc mm_m165).drop 336).take 48) = true := by decide +kernel
theorem mm_oc165_8 : mm_cks mm_ms (mm_My mm_m165) (mm_Mb mm_m165) (mm_Ml mm_m165) 384 (((mm_Mc mm_m165).drop 384).take 48) = true := by decide +kernel
theorem mm_oc165_9 : mm_cks mm_ms (mm_My mm_m165) (mm_Mb mm_m165) (mm_Ml mm_m165) 432 (((mm_Mc mm_m165).drop 432).take 48) = true := by decide +kernel
theorem mm_oc165_10 : mm_cks mm_ms (mm_My mm_m165) (mm_Mb mm_m165) (mm_Ml mm_m165) 480 (((mm_Mc mm_m165).drop 480).take 48) = true := by decide +kernel
theorem mm_oc165_11 : mm_cks mm_ms (mm_My mm_m165) (mm_Mb mm_m165) (mm_Ml mm_m165) 528 ((mm_Mc mm_m165).drop 528) = true := by decide +kernel
theorem mm_ok165 : mm_ckm mm_ms mm_m165 = true := mm_ckm_of mm_oh165 (mm_cks_seg 48 0 48 rfl mm_oc165_0 (mm_cks_seg 48 48 96 rfl mm_oc165_1 (mm_cks_seg 48 96 144 rfl mm_oc165_2 (mm_cks_seg 48 144 192 rfl mm_oc165_3 (mm_cks_seg 48 192 240 rfl mm_oc165_4 (mm_cks_seg 48 240 288 rfl mm_oc165_5 (mm_cks_seg 48 288 336 rfl mm_oc165_6 (mm_cks_seg 48 336 384 rfl mm_oc165_7 (mm_cks_seg 48 384 432 rfl mm_oc165_8 (mm_cks_seg 48 432 480 rfl mm_oc165_9 (mm_cks_seg 48 480 528 rfl mm_oc165_10 mm_oc165_11)))))))))))
theorem mm_ok166 : mm_ckm mm_ms mm_m166 = true := by decide +kernel
theorem mm_ok167 : mm_ckm mm_ms mm_m167 = true := by decide +kernel
theorem mm_ok168 : mm_ckm mm_ms mm_m168 = true := by decide +kernel
theorem mm_oh169 : mm_ckh mm_m169 = true := by decide +kernel
theorem mm_oc169_0 : mm_cks mm_ms (mm_My mm_m169) (mm_Mb mm_m169) (mm_Ml mm_m169) 0 (((mm_Mc mm_m169).drop 0).take 48) = true := by decide +kernel
theorem mm_oc169_1 : mm_cks mm_ms (mm_My mm_m169) (mm_Mb mm_m169) (mm_Ml mm_m169) 48 ((mm_Mc mm_m169).drop 48) = true := by decide +kernel
theorem mm_ok169 : mm_ckm mm_ms mm_m169 = true := mm_ckm_of mm_oh169 (mm_cks_seg 48 0 48 rfl mm_oc169_0 mm_oc169_1)
theorem mm_ok170 : mm_ckm mm_ms mm_m170 = true := by decide +kernel
theorem mm_ok171 : mm_ckm mm_ms mm_m171 = true := by decide +kernel
theorem mm_oh172 : mm_ckh mm_m172 = true := by decide +kernel
theorem mm_oc172_0 : mm_cks mm_ms (mm_My mm_m172) (mm_Mb mm_m172) (mm_Ml mm_m172) 0 (((mm_Mc mm_m172).drop 0).take 48) = true := by decide +kernel
theorem mm_oc172_1 : mm_cks mm_ms (mm_My mm_m172) (mm_Mb mm_m172) (mm_Ml mm_m172) 48 (((mm_Mc mm_m172).drop 48).take 48) = true := by decide +kernel
theorem mm_oc172_2 : mm_cks mm_ms (mm_My mm_m172) (mm_Mb mm_m172) (mm_Ml mm_m172) 96 (((mm_Mc mm_m172).drop 96).take 48) = true := by decide +kernel
theorem mm_oc172_3 : mm_cks mm_ms (mm_My mm_m172) (mm_Mb mm_m172) (mm_Ml mm_m172) 144 (((mm_Mc mm_m172).drop 144).take 48) = true := by decide +kernel
theorem mm_oc172_4 : mm_cks mm_ms (mm_My mm_m172) (mm_Mb mm_m172) (mm_Ml mm_m172) 192 ((mm_Mc mm_m172).drop 192) = true := by decide +kernel
theorem mm_ok172 : mm_ckm mm_ms mm_m172 = true := mm_ckm_of mm_oh172 (mm_cks_seg 48 0 48 rfl mm_oc172_0 (mm_cks_seg 48 48 96 rfl mm_oc172_1 (mm_cks_seg 48 96 144 rfl mm_oc172_2 (mm_cks_seg 48 144 192 rfl mm_oc172_3 mm_oc172_4))))
theorem mm_ok173 : mm_ckm mm_ms mm_m173 = true := by decide +kernel
theorem mm_ok174 : mm_ckm mm_ms mm_m174 = true := by decide +kernel
theorem mm_oh175 : mm_ckh mm_m175 = true := by decide +kernel
theorem mm_oc175_0 : mm_cks mm_ms (mm_My mm_m175) (mm_Mb mm_m175) (mm_Ml mm_m175) 0 (((mm_Mc mm_m175).drop 0).take 48) = true := by decide +kernel
theorem mm_oc175_1 : mm_cks mm_ms (mm_My mm_m175) (mm_Mb mm_m175) (mm_Ml mm_m175) 48 (((mm_Mc mm_m175).drop 48).take 48) = true := by decide +kernel
theorem mm_oc175_2 : mm_cks mm_ms (mm_My mm_m175) (mm_Mb mm_m175) (mm_Ml mm_m175) 96 ((mm_Mc mm_m175).drop 96) = true := by decide +kernel
theorem mm_ok175 : mm_ckm mm_ms mm_m175 = true := mm_ckm_of mm_oh175 (mm_cks_seg 48 0 48 rfl mm_oc175_0 (mm_cks_seg 48 48 96 rfl mm_oc175_1 mm_oc175_2))
theorem mm_ok176 : mm_ckm mm_ms mm_m176 = true := by decide +kernel
theorem mm_ok177 : mm_ckm mm_ms mm_m177 = true := by decide +kernel
theorem mm_oh178 : mm_ckh mm_m178 = true := by decide +kernel
theorem mm_oc178_0 : mm_cks mm_ms (mm_My mm_m178) (mm_Mb mm_m178) (mm_Ml mm_m178) 0 (((mm_Mc mm_m178).drop 0).take 48) = true := by decide +kernel
theorem mm_oc178_1 : mm_cks mm_ms (mm_My mm_m178) (mm_Mb mm_m178) (mm_Ml mm_m178) 48 (((mm_Mc mm_m178).drop 48).take 48) = true := by decide +kernel
theorem mm_oc178_2 : mm_cks mm_ms (mm_My mm_m178) (mm_Mb mm_m178) (mm_Ml mm_m178) 96 ((mm_Mc mm_m178).drop 96) = true := by decide +kernel
theorem mm_ok178 : mm_ckm mm_ms mm_m178 = true := mm_ckm_of mm_oh178 (mm_cks_seg 48 0 48 rfl mm_oc178_0 (mm_cks_seg 48 48 96 rfl mm_oc178_1 mm_oc178_2))
theorem mm_ok179 : mm_ckm mm_ms mm_m179 = true := by decide +kernel
theorem mm_ok180 : mm_ckm mm_ms mm_m180 = true := by decide +kernel
theorem mm_oh181 : mm_ckh mm_m181 = true := by decide +kernel
theorem mm_oc181_0 : mm_cks mm_ms (mm_My mm_m181) (mm_Mb mm_m181) (mm_Ml mm_m181) 0 (((mm_Mc mm_m181).drop 0).take 48) = true := by decide +kernel
theorem mm_oc181_1 : mm_cks mm_ms (mm_My mm_m181) (mm_Mb mm_m181) (mm_Ml mm_m181) 48 (((mm_Mc mm_m181).drop 48).take 48) = true := by decide +kernel
theorem mm_oc181_2 : mm_cks mm_ms (mm_My mm_m181) (mm_Mb mm_m181) (mm_Ml mm_m181) 96 (((mm_Mc mm_m181).drop 96).take 48) = true := by decide +kernel
theorem mm_oc181_3 : mm_cks mm_ms (mm_My mm_m181) (mm_Mb mm_m181) (mm_Ml mm_m181) 144 (((mm_Mc mm_m181).drop 144).take 48) = true := by decide +kernel
theorem mm_oc181_4 : mm_cks mm_ms (mm_My mm_m181) (mm_Mb mm_m181) (mm_Ml mm_m181) 192 (((mm_Mc mm_m181).drop 192).take 48) = true := by decide +kernel
theorem mm_oc181_5 : mm_cks mm_ms (mm_My mm_m181) (mm_Mb mm_m181) (mm_Ml mm_m181) 240 ((mm_Mc mm_m181).drop 240) = true := by decide +kernel
theorem mm_ok181 : mm_ckm mm_ms mm_m181 = true := mm_ckm_of mm_oh181 (mm_cks_seg 48 0 48 rfl mm_oc181_0 (mm_cks_seg 48 48 96 rfl mm_oc181_1 (mm_cks_seg 48 96 144 rfl mm_oc181_2 (mm_cks_seg 48 144 192 rfl mm_oc181_3 (mm_cks_seg 48 192 240 rfl mm_oc181_4 mm_oc181_5)))))
