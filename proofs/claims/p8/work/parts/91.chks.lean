/-! ===== further ===== -/
theorem mm_ok182 : mm_ckm mm_ms mm_m182 = true := by decide +kernel
theorem mm_ok183 : mm_ckm mm_ms mm_m183 = true := by decide +kernel
theorem mm_ok184 : mm_ckm mm_ms mm_m184 = true := by decide +kernel
theorem mm_ok185 : mm_ckm mm_ms mm_m185 = true := by decide +kernel
theorem mm_ok186 : mm_ckm mm_ms mm_m186 = true := by decide +kernel
theorem mm_ok187 : mm_ckm mm_ms mm_m187 = true := by decide +kernel
theorem mm_oh188 : mm_ckh mm_m188 = true := by decide +kernel
theorem mm_oc188_0 : mm_cks mm_ms (mm_My mm_m188) (mm_Mb mm_m188) (mm_Ml mm_m188) 0 (((mm_Mc mm_m188).drop 0).take 48) = true := by decide +kernel
theorem mm_oc188_1 : mm_cks mm_ms (mm_My mm_m188) (mm_Mb mm_m188) (mm_Ml mm_m188) 48 (((mm_Mc mm_m188).drop 48).take 48) = true := by decide +kernel
theorem mm_oc188_2 : mm_cks mm_ms (mm_My mm_m188) (mm_Mb mm_m188) (mm_Ml mm_m188) 96 (((mm_Mc mm_m188).drop 96).take 48) = true := by decide +kernel
theorem mm_oc188_3 : mm_cks mm_ms (mm_My mm_m188) (mm_Mb mm_m188) (mm_Ml mm_m188) 144 (((mm_Mc mm_m188).drop 144).take 48) = true := by decide +kernel
theorem mm_oc188_4 : mm_cks mm_ms (mm_My mm_m188) (mm_Mb mm_m188) (mm_Ml mm_m188) 192 ((mm_Mc mm_m188).drop 192) = true := by decide +kernel
theorem mm_ok188 : mm_ckm mm_ms mm_m188 = true := mm_ckm_of mm_oh188 (mm_cks_seg 48 0 48 rfl mm_oc188_0 (mm_cks_seg 48 48 96 rfl mm_oc188_1 (mm_cks_seg 48 96 144 rfl mm_oc188_2 (mm_cks_seg 48 144 192 rfl mm_oc188_3 mm_oc188_4))))
theorem mm_oh189 : mm_ckh mm_m189 = true := by decide +kernel
theorem mm_oc189_0 : mm_cks mm_ms (mm_My mm_m189) (mm_Mb mm_m189) (mm_Ml mm_m189) 0 (((mm_Mc mm_m189).drop 0).take 48) = true := by decide +kernel
theorem mm_oc189_1 : mm_cks mm_ms (mm_My mm_m189) (mm_Mb mm_m189) (mm_Ml mm_m189) 48 (((mm_Mc mm_m189).drop 48).take 48) = true := by decide +kernel
theorem mm_oc189_2 : mm_cks mm_ms (mm_My mm_m189) (mm_Mb mm_m189) (mm_Ml mm_m189) 96 (((mm_Mc mm_m189).drop 96).take 48) = true := by decide +kernel
theorem mm_oc189_3 : mm_cks mm_ms (mm_My mm_m189) (mm_Mb mm_m189) (mm_Ml mm_m189) 144 (((mm_Mc mm_m189).drop 144).take 48) = true := by decide +kernel
theorem mm_oc189_4 : mm_cks mm_ms (mm_My mm_m189) (mm_Mb mm_m189) (mm_Ml mm_m189) 192 (((mm_Mc mm_m189).drop 192).take 48) = true := by decide +kernel
theorem mm_oc189_5 : mm_cks mm_ms (mm_My mm_m189) (mm_Mb mm_m189) (mm_Ml mm_m189) 240 ((mm_Mc mm_m189).drop 240) = true := by decide +kernel
theorem mm_ok189 : mm_ckm mm_ms mm_m189 = true := mm_ckm_of mm_oh189 (mm_cks_seg 48 0 48 rfl mm_oc189_0 (mm_cks_seg 48 48 96 rfl mm_oc189_1 (mm_cks_seg 48 96 144 rfl mm_oc189_2 (mm_cks_seg 48 144 192 rfl mm_oc189_3 (mm_cks_seg 48 192 240 rfl mm_oc189_4 mm_oc189_5)))))
theorem mm_oh190 : mm_ckh mm_m190 = true := by decide +kernel
theorem mm_oc190_0 : mm_cks mm_ms (mm_My mm_m190) (mm_Mb mm_m190) (mm_Ml mm_m190) 0 (((mm_Mc mm_m190).drop 0).take 48) = true := by decide +kernel
theorem mm_oc190_1 : mm_cks mm_ms (mm_My mm_m190) (mm_Mb mm_m190) (mm_Ml mm_m190) 48 (((mm_Mc mm_m190).drop 48).take 48) = true := by decide +kernel
theorem mm_oc190_2 : mm_cks mm_ms (mm_My mm_m190) (mm_Mb mm_m190) (mm_Ml mm_m190) 96 ((mm_Mc mm_m190).drop 96) = true := by decide +kernel
theorem mm_ok190 : mm_ckm mm_ms mm_m190 = true := mm_ckm_of mm_oh190 (mm_cks_seg 48 0 48 rfl mm_oc190_0 (mm_cks_seg 48 48 96 rfl mm_oc190_1 mm_oc190_2))
theorem mm_ok191 : mm_ckm mm_ms mm_m191 = true := by decide +kernel
theorem mm_oh192 : mm_ckh mm_m192 = true := by decide +kernel
theorem mm_oc192_0 : mm_cks mm_ms (mm_My mm_m192) (mm_Mb mm_m192) (mm_Ml mm_m192) 0 (((mm_Mc mm_m192).drop 0).take 48) = true := by decide +kernel
theorem mm_oc192_1 : mm_cks mm_ms (mm_My mm_m192) (mm_Mb mm_m192) (mm_Ml mm_m192) 48 (((mm_Mc mm_m192).drop 48).take 48) = true := by decide +kernel
theorem mm_oc192_2 : mm_cks mm_ms (mm_My mm_m192) (mm_Mb mm_m192) (mm_Ml mm_m192) 96 (((mm_Mc mm_m192).drop 96).take 48) = true := by decide +kernel
theorem mm_oc192_3 : mm_cks mm_ms (mm_My mm_m192) (mm_Mb mm_m192) (mm_Ml mm_m192) 144 ((mm_Mc mm_m192).drop 144) = true := by decide +kernel
theorem mm_ok192 : mm_ckm mm_ms mm_m192 = true := mm_ckm_of mm_oh192 (mm_cks_seg 48 0 48 rfl mm_oc192_0 (mm_cks_seg 48 48 96 rfl mm_oc192_1 (mm_cks_seg 48 96 144 rfl mm_oc192_2 mm_oc192_3)))
theorem mm_oh193 : mm_ckh mm_m193 = true := by decide +kernel
theorem mm_oc193_0 : mm_cks mm_ms (mm_My mm_m193) (mm_Mb mm_m193) (mm_Ml mm_m193) 0 (((mm_Mc mm_m193).drop 0).take 48) = true := by decide +kernel
theorem mm_oc193_1 : mm_cks mm_ms (mm_My mm_m193) (mm_Mb mm_m193) (mm_Ml mm_m193) 48 (((mm_Mc mm_m193).drop 48).take 48) = true := by decide +kernel
theorem mm_oc193_2 : mm_cks mm_ms (mm_My mm_m193) (mm_Mb mm_m193) (mm_Ml mm_m193) 96 (((mm_Mc mm_m193).drop 96).take 48) = true := by decide +kernel
theorem mm_oc193_3 : mm_cks mm_ms (mm_My mm_m193) (mm_Mb mm_m193) (mm_Ml mm_m193) 144 (((mm_Mc mm_m193).drop 144).take 48) = true := by decide +kernel
theorem mm_oc193_4 : mm_cks mm_ms (mm_My mm_m193) (mm_Mb mm_m193) (mm_Ml mm_m193) 192 (((mm_Mc mm_m193).drop 192).take 48) = true := by decide +kernel
theorem mm_oc193_5 : mm_cks mm_ms (mm_My mm_m193) (mm_Mb mm_m193) (mm_Ml mm_m193) 240 (((mm_Mc mm_m193).drop 240).take 48) = true := by decide +kernel
theorem mm_oc193_6 : mm_cks mm_ms (mm_My mm_m193) (mm_Mb mm_m193) (mm_Ml mm_m193) 288 ((mm_Mc mm_m193).drop 288) = true := by decide +kernel
theorem mm_ok193 : mm_ckm mm_ms mm_m193 = true := mm_ckm_of mm_oh193 (mm_cks_seg 48 0 48 rfl mm_oc193_0 (mm_cks_seg 48 48 96 rfl mm_oc193_1 (mm_cks_seg 48 96 144 rfl mm_oc193_2 (mm_cks_seg 48 144 192 rfl mm_oc193_3 (mm_cks_seg 48 192 240 rfl mm_oc193_4 (mm_cks_seg 48 240 288 rfl mm_oc193_5 mm_oc193_6))))))
theorem mm_oh194 : mm_ckh mm_m194 = true := by decide +kernel
theorem mm_oc194_0 : mm_cks mm_ms (mm_My mm_m194) (mm_Mb mm_m194) (mm_Ml mm_m194) 0 (((mm_Mc mm_m194).drop 0).take 48) = true := by decide +kernel
theorem mm_oc194_1 : mm_cks mm_ms (mm_My mm_m194) (mm_Mb mm_m194) (mm_Ml mm_m194) 48 (((mm_Mc mm_m194).drop 48).take 48) = true := by decide +kernel
theorem mm_oc194_2 : mm_cks mm_ms (mm_My mm_m194) (mm_Mb mm_m194) (mm_Ml mm_m194) 96 (((mm_Mc mm_m194).drop 96).take 48) = true := by decide +kernel
theorem mm_oc194_3 : mm_cks mm_ms (mm_My mm_m194) (mm_Mb mm_m194) (mm_Ml mm_m194) 144 (((mm_Mc mm_m194).drop 144).take 48) = true := by decide +kernel
theorem mm_oc194_4 : mm_cks mm_ms (mm_My mm_m194) (mm_Mb mm_m194) (mm_Ml mm_m194) 192 ((mm_Mc mm_m194).drop 192) = true := by decide +kernel
theorem mm_ok194 : mm_ckm mm_ms mm_m194 = true := mm_ckm_of mm_oh194 (mm_cks_seg 48 0 48 rfl mm_oc194_0 (mm_cks_seg 48 48 96 rfl mm_oc194_1 (mm_cks_seg 48 96 144 rfl mm_oc194_2 (mm_cks_seg 48 144 192 rfl mm_oc194_3 mm_oc194_4))))
theorem mm_ok195 : mm_ckm mm_ms mm_m195 = true := by decide +kernel
theorem mm_oh196 : mm_ckh mm_m196 = true := by decide +kernel
theorem mm_oc196_0 : mm_cks mm_ms (mm_My mm_m196) (mm_Mb mm_m196) (mm_Ml mm_m196) 0 (((mm_Mc mm_m196).drop 0).take 48) = true := by decide +kernel
theorem mm_oc196_1 : mm_cks mm_ms (mm_My mm_m196) (mm_Mb mm_m196) (mm_Ml mm_m196) 48 (((mm_Mc mm_m196).drop 48).take 48) = true := by decide +kernel
theorem mm_oc196_2 : mm_cks mm_ms (mm_My mm_m196) (mm_Mb mm_m196) (mm_Ml mm_m196) 96 ((mm_Mc mm_m196).drop 96) = true := by decide +kernel
theorem mm_ok196 : mm_ckm mm_ms mm_m196 = true := mm_ckm_of mm_oh196 (mm_cks_seg 48 0 48 rfl mm_oc196_0 (mm_cks_seg 48 48 96 rfl mm_oc196_1 mm_oc196_2))
theorem mm_oh197 : mm_ckh mm_m197 = true := by decide +kernel
theorem mm_oc197_0 : mm_cks mm_ms (mm_My mm_m197) (mm_Mb mm_m197) (mm_Ml mm_m197) 0 (((mm_Mc mm_m197).drop 0).take 48) = true := by decide +kernel
theorem mm_oc197_1 : mm_cks mm_ms (mm_My mm_m197) (mm_Mb mm_m197) (mm_Ml mm_m197) 48 (((mm_Mc mm_m197).drop 48).take 48) = true := by decide +kernel
theorem mm_oc197_2 : mm_cks mm_ms (mm_My mm_m197) (mm_Mb mm_m197) (mm_Ml mm_m197) 96 ((mm_Mc mm_m197).drop 96) = true := by decide +kernel
theorem mm_ok197 : mm_ckm mm_ms mm_m197 = true := mm_ckm_of mm_oh197 (mm_cks_seg 48 0 48 rfl mm_oc197_0 (mm_cks_seg 48 48 96 rfl mm_oc197_1 mm_oc197_2))
theorem mm_oh198 : mm_ckh mm_m198 = true := by decide +kernel
theorem mm_oc198_0 : mm_cks mm_ms (mm_My mm_m198) (mm_Mb mm_m198) (mm_Ml mm_m198) 0 (((mm_Mc mm_m198).drop 0).take 48) = true := by decide +kernel
theorem mm_oc198_1 : mm_cks mm_ms (mm_My mm_m198) (mm_Mb mm_m198) (mm_Ml mm_m198) 48 (((mm_Mc mm_m198).drop 48).take 48) = true := by decide +kernel
theorem mm_oc198_2 : mm_cks mm_ms (mm_My mm_m198) (mm_Mb mm_m198) (mm_Ml mm_m198) 96 (((mm_Mc mm_m198).drop 96).take 48) = true := by decide +kernel
theorem mm_oc198_3 : mm_cks mm_ms (mm_My mm_m198) (mm_Mb mm_m198) (mm_Ml mm_m198) 144 (((mm_Mc mm_m198).drop 144).take 48) = true := by decide +kernel
theorem mm_oc198_4 : mm_cks mm_ms (mm_My mm_m198) (mm_Mb mm_m198) (mm_Ml mm_m198) 192 ((mm_Mc mm_m198).drop 192) = true := by decide +kernel
theorem mm_ok198 : mm_ckm mm_ms mm_m198 = true := mm_ckm_of mm_oh198 (mm_cks_seg 48 0 48 rfl mm_oc198_0 (mm_cks_seg 48 48 96 rfl mm_oc198_1 (mm_cks_seg 48 96 144 rfl mm_oc198_2 (mm_cks_seg 48 144 192 rfl mm_oc198_3 mm_oc198_4))))
theorem mm_ok199 : mm_ckm mm_ms mm_m199 = true := by decide +kernel
theorem mm_ok200 : mm_ckm mm_ms mm_m200 = true := by decide +kernel
theorem mm_oh201 : mm_ckh mm_m201 = true := by decide +kernel
theorem mm_oc201_0 : mm_cks mm_ms (mm_My mm_m201) (mm_Mb mm_m201) (mm_Ml mm_m201) 0 (((mm_Mc mm_m201).drop 0).take 48) = true := by decide +kernel
theorem mm_oc201_1 : mm_cks mm_ms (mm_My mm_m201) (mm_Mb mm_m201) (mm_Ml mm_m201) 48 (((mm_Mc mm_m201).drop 48).take 48) = true := by decide +kernel
theorem mm_oc201_2 : mm_cks mm_ms (mm_My mm_m201) (mm_Mb mm_m201) (mm_Ml mm_m201) 96 ((mm_Mc mm_m201).drop 96) = true := by decide +kernel
theorem mm_ok201 : mm_ckm mm_ms mm_m201 = true := mm_ckm_of mm_oh201 (mm_cks_seg 48 0 48 rfl mm_oc201_0 (mm_cks_seg 48 48 96 rfl mm_oc201_1 mm_oc201_2))
theorem mm_oh202 : mm_ckh mm_m202 = true := by decide +kernel
theorem mm_oc202_0 : mm_cks mm_ms (mm_My mm_m202) (mm_Mb mm_m202) (mm_Ml mm_m202) 0 (((mm_Mc mm_m202).drop 0).take 48) = true := by decide +kernel
theorem mm_oc202_1 : mm_cks mm_ms (mm_My mm_m202) (mm_Mb mm_m202) (mm_Ml mm_m202) 48 (((mm_Mc mm_m202).drop 48).take 48) = true := by decide +kernel
theorem mm_oc202_2 : mm_cks mm_ms (mm_My mm_m202) (mm_Mb mm_m202) (mm_Ml mm_m202) 96 (((mm_Mc mm_m202).drop 96).take 48) = true := by decide +kernel
theorem mm_oc202_3 : mm_cks mm_ms (mm_My mm_m202) (mm_Mb mm_m202) (mm_Ml mm_m202) 144 ((mm_Mc mm_m202).drop 144) = true := by decide +kernel
theorem mm_ok202 : mm_ckm mm_ms mm_m202 = true := mm_ckm_of mm_oh202 (mm_cks_seg 48 0 48 rfl mm_oc202_0 (mm_cks_seg 48 48 96 rfl mm_oc202_1 (mm_cks_seg 48 96 144 rfl mm_oc202_2 mm_oc202_3)))
theorem mm_oh203 : mm_ckh mm_m203 = true := by decide +kernel
theorem mm_oc203_0 : mm_cks mm_ms (mm_My mm_m203) (mm_Mb mm_m203) (mm_Ml mm_m203) 0 (((mm_Mc mm_m203).drop 0).take 48) = true := by decide +kernel
theorem mm_oc203_1 : mm_cks mm_ms (mm_My mm_m203) (mm_Mb mm_m203) (mm_Ml mm_m203) 48 (((mm_Mc mm_m203).drop 48).take 48) = true := by decide +kernel
theorem mm_oc203_2 : mm_cks mm_ms (mm_My mm_m203) (mm_Mb mm_m203) (mm_Ml mm_m203) 96 (((mm_Mc mm_m203).drop 96).take 48) = true := by decide +kernel
theorem mm_oc203_3 : mm_cks mm_ms (mm_My mm_m203) (mm_Mb mm_m203) (mm_Ml mm_m203) 144 ((mm_Mc mm_m203).drop 144) = true := by decide +kernel
theorem mm_ok203 : mm_ckm mm_ms mm_m203 = true := mm_ckm_of mm_oh203 (mm_cks_seg 48 0 48 rfl mm_oc203_0 (mm_cks_seg 48 48 96 rfl mm_oc203_1 (mm_cks_seg 48 96 144 rfl mm_oc203_2 mm_oc203_3)))
theorem mm_oh204 : mm_ckh mm_m204 = true := by decide +kernel
theorem mm_oc204_0 : mm_cks mm_ms (mm_My mm_m204) (mm_Mb mm_m204) (mm_Ml mm_m204) 0 (((mm_Mc mm_m204).drop 0).take 48) = true := by decide +kernel
theorem mm_oc204_1 : mm_cks mm_ms (mm_My mm_m204) (mm_Mb mm_m204) (mm_Ml mm_m204) 48 ((mm_Mc mm_m204).drop 48) = true := by decide +kernel
theorem mm_ok204 : mm_ckm mm_ms mm_m204 = true := mm_ckm_of mm_oh204 (mm_cks_seg 48 0 48 rfl mm_oc204_0 mm_oc204_1)
theorem mm_ok205 : mm_ckm mm_ms mm_m205 = true := by decide +kernel
theorem mm_oh206 : mm_ckh mm_m206 = true := by decide +kernel
theorem mm_oc206_0 : mm_cks mm_ms (mm_My mm_m206) (mm_Mb mm_m206) (mm_Ml mm_m206) 0 (((mm_Mc mm_m206).drop 0).take 48) = true := by decide +kernel
theorem mm_oc206_1 : mm_cks mm_ms (mm_My mm_m206) (mm_Mb mm_m206) (mm_Ml mm_m206) 48 (((mm_Mc mm_m206).drop 48).take 48) = true := by decide +kernel
theorem mm_oc206_2 : mm_cks mm_ms (mm_My mm_m206) (mm_Mb mm_m206) (mm_Ml mm_m206) 96 ((mm_Mc mm_m206).drop 96) = true := by decide +kernel
theorem mm_ok206 : mm_ckm mm_ms mm_m206 = true := mm_ckm_of mm_oh206 (mm_cks_seg 48 0 48 rfl mm_oc206_0 (mm_cks_seg 48 48 96 rfl mm_oc206_1 mm_oc206_2))
theorem mm_oh207 : mm_ckh mm_m207 = true := by decide +kernel
theorem mm_oc207_0 : mm_cks mm_ms (mm_My mm_m207) (mm_Mb mm_m207) (mm_Ml mm_m207) 0 (((mm_Mc mm_m207).drop 0).take 48) = true := by decide +kernel
theorem mm_oc207_1 : mm_cks mm_ms (mm_My mm_m207) (mm_Mb mm_m207) (mm_Ml mm_m207) 48 (((mm_Mc mm_m207).drop 48).take 48) = true := by decide +kernel
theorem mm_oc207_2 : mm_cks mm_ms (mm_My mm_m207) (mm_Mb mm_m207) (mm_Ml mm_m207) 96 (((mm_Mc mm_m207).drop 96).take 48) = true := by decide +kernel
theorem mm_oc207_3 : mm_cks mm_ms (mm_My mm_m207) (mm_Mb mm_m207) (mm_Ml mm_m207) 144 (((mm_Mc mm_m207).drop 144).take 48) = true := by decide +kernel
theorem mm_oc207_4 : mm_cks mm_ms (mm_My mm_m207) (mm_Mb mm_m207) (mm_Ml mm_m207) 192 ((mm_Mc mm_m207).drop 192) = true := by decide +kernel
theorem mm_ok207 : mm_ckm mm_ms mm_m207 = true := mm_ckm_of mm_oh207 (mm_cks_seg 48 0 48 rfl mm_oc207_0 (mm_cks_seg 48 48 96 rfl mm_oc207_1 (mm_cks_seg 48 96 144 rfl mm_oc207_2 (mm_cks_seg 48 144 192 rfl mm_oc207_3 mm_oc207_4))))
theorem mm_oh208 : mm_ckh mm_m208 = true := by decide +kernel
theorem mm_oc208_0 : mm_cks mm_ms (mm_My mm_m208) (mm_Mb mm_m208) (mm_Ml mm_m208) 0 (((mm_Mc mm_m208).drop 0).take 48) = true := by decide +kernel
theorem mm_oc208_1 : mm_cks mm_ms (mm_My mm_m208) (mm_Mb mm_m208) (mm_Ml mm_m208) 48 (((mm_Mc mm_m208).drop 48).take 48) = true := by decide +kernel
theorem mm_oc208_2 : mm_cks mm_ms (mm_My mm_m208) (mm_Mb mm_m208) (mm_Ml mm_m208) 96 (((mm_Mc mm_m208).drop 96).take 48) = true := by decide +kernel
theorem mm_oc208_3 : mm_cks mm_ms (mm_My mm_m208) (mm_Mb mm_m208) (mm_Ml mm_m208) 144 ((mm_Mc mm_m208).drop 144) = true := by decide +kernel
theorem mm_ok208 : mm_ckm mm_ms mm_m208 = true := mm_ckm_of mm_oh208 (mm_cks_seg 48 0 48 rfl mm_oc208_0 (mm_cks_seg 48 48 96 rfl mm_oc208_1 (mm_cks_seg 48 96 144 rfl mm_oc208_2 mm_oc208_3)))
theorem mm_ok209 : mm_ckm mm_ms mm_m209 = true := by decide +kernel
theorem mm_oh210 : mm_ckh mm_m210 = true := by decide +kernel
theorem mm_oc210_0 : mm_cks mm_ms (mm_My mm_m210) (mm_Mb mm_m210) (mm_Ml mm_m210) 0 (((mm_Mc mm_m210).drop 0).take 48) = true := by decide +kernel
theorem mm_oc210_1 : mm_cks mm_ms (mm_My mm_m210) (mm_Mb mm_m210) (mm_Ml mm_m210) 48 (((mm_Mc mm_m210).drop 48).take 48) = true := by decide +kernel
theorem mm_oc210_2 : mm_cks mm_ms (mm_My mm_m210) (mm_Mb mm_m210) (mm_Ml mm_m210) 96 (((mm_Mc mm_m210).drop 96).take 48) = true := by decide +kernel
theorem mm_oc210_3 : mm_cks mm_ms (mm_My mm_m210) (mm_Mb mm_m210) (mm_Ml mm_m210) 144 (((mm_Mc mm_m210).drop 144).take 48) = true := by decide +kernel
theorem mm_oc210_4 : mm_cks mm_ms (mm_My mm_m210) (mm_Mb mm_m210) (mm_Ml mm_m210) 192 ((mm_Mc mm_m210).drop 192) = true := by decide +kernel
theorem mm_ok210 : mm_ckm mm_ms mm_m210 = true := mm_ckm_of mm_oh210 (mm_cks_seg 48 0 48 rfl mm_oc210_0 (mm_cks_seg 48 48 96 rfl mm_oc210_1 (mm_cks_seg 48 96 144 rfl mm_oc210_2 (mm_cks_seg 48 144 192 rfl mm_oc210_3 mm_oc210_4))))
theorem mm_ok211 : mm_ckm mm_ms mm_m211 = true := by decide +kernel
theorem mm_ok212 : mm_ckm mm_ms mm_m212 = true := by decide +kernel
theorem mm_ok213 : mm_ckm mm_ms mm_m213 = true := by decide +kernel
theorem mm_ok214 : mm_ckm mm_ms mm_m214 = true := by decide +kernel
theorem mm_oh215 : mm_ckh mm_m215 = true := by decide +kernel
theorem mm_oc215_0 : mm_cks mm_ms (mm_My mm_m215) (mm_Mb mm_m215) (mm_Ml mm_m215) 0 (((mm_Mc mm_m215).drop 0).take 48) = true := by decide +kernel
theorem mm_oc215_1 : mm_cks mm_ms (mm_My mm_m215) (mm_Mb mm_m215) (mm_Ml mm_m215) 48 ((mm_Mc mm_m215).drop 48) = true := by decide +kernel
theorem mm_ok215 : mm_ckm mm_ms mm_m215 = true := mm_ckm_of mm_oh215 (mm_cks_seg 48 0 48 rfl mm_oc215_0 mm_oc215_1)
theorem mm_oh216 : mm_ckh mm_m216 = true := by decide +kernel
theorem mm_oc216_0 : mm_cks mm_ms (mm_My mm_m216) (mm_Mb mm_m216) (mm_Ml mm_m216) 0 (((mm_Mc mm_m216).drop 0).take 48) = true := by decide +kernel
theorem mm_oc216_1 : mm_cks mm_ms (mm_My mm_m216) (mm_Mb mm_m216) (mm_Ml mm_m216) 48 (((mm_Mc mm_m216).drop 48).take 48) = true := by decide +kernel
theorem mm_oc216_2 : mm_cks mm_ms (mm_My mm_m216) (mm_Mb mm_m216) (mm_Ml mm_m216) 96 ((mm_Mc mm_m216).drop 96) = true := by decide +kernel
theorem mm_ok216 : mm_ckm mm_ms mm_m216 = true := mm_ckm_of mm_oh216 (mm_cks_seg 48 0 48 rfl mm_oc216_0 (mm_cks_seg 48 48 96 rfl mm_oc216_1 mm_oc216_2))
theorem mm_oh217 : mm_ckh mm_m217 = true := by decide +kernel
theorem mm_oc217_0 : mm_cks mm_ms (mm_My mm_m217) (mm_Mb mm_m217) (mm_Ml mm_m217) 0 (((mm_Mc mm_m217).drop 0).take 48) = true := by decide +kernel
theorem mm_oc217_1 : mm_cks mm_ms (mm_My mm_m217) (mm_Mb mm_m217) (mm_Ml mm_m217) 48 (((mm_Mc mm_m217).drop 48).take 48) = true := by decide +kernel
theorem mm_oc217_2 : mm_cks mm_ms (mm_My mm_m217) (mm_Mb mm_m217) (mm_Ml mm_m217) 96 ((mm_Mc mm_m217).drop 96) = true := by decide +kernel
theorem mm_ok217 : mm_ckm mm_ms mm_m217 = true := mm_ckm_of mm_oh217 (mm_cks_seg 48 0 48 rfl mm_oc217_0 (mm_cks_seg 48 48 96 rfl mm_oc217_1 mm_oc217_2))
theorem mm_ok218 : mm_ckm mm_ms mm_m218 = true := by decide +kernel
theorem mm_ok219 : mm_ckm mm_ms mm_m219 = true := by decide +kernel
theorem mm_oh220 : mm_ckh mm_m220 = true := by decide +kernel
theorem mm_oc220_0 : mm_cks mm_ms (mm_My mm_m220) (mm_Mb mm_m220) (mm_Ml mm_m220) 0 (((mm_Mc mm_m220).drop 0).take 48) = true := by decide +kernel
theorem mm_oc220_1 : mm_cks mm_ms (mm_My mm_m220) (mm_Mb mm_m220) (mm_Ml mm_m220) 48 (((mm_Mc mm_m220).drop 48).take 48) = true := by decide +kernel
theorem mm_oc220_2 : mm_cks mm_ms (mm_My mm_m220) (mm_Mb mm_m220) (mm_Ml mm_m220) 96 (((mm_Mc mm_m220).drop 96).take 48) = true := by decide +kernel
theorem mm_oc220_3 : mm_cks mm_ms (mm_My mm_m220) (mm_Mb mm_m220) (mm_Ml mm_m220) 144 (((mm_Mc mm_m220).drop 144).take 48) = true := by decide +kernel
theorem mm_oc220_4 : mm_cks mm_ms (mm_My mm_m220) (mm_Mb mm_m220) (mm_Ml mm_m220) 192 (((mm_Mc mm_m220).drop 192).take 48) = true := by decide +kernel
theorem mm_oc220_5 : mm_cks mm_ms (mm_My mm_m220) (mm_Mb mm_m220) (mm_Ml mm_m220) 240 ((mm_Mc mm_m220).drop 240) = true := by decide +kernel
theorem mm_ok220 : mm_ckm mm_ms mm_m220 = true := mm_ckm_of mm_oh220 (mm_cks_seg 48 0 48 rfl mm_oc220_0 (mm_cks_seg 48 48 96 rfl mm_oc220_1 (mm_cks_seg 48 96 144 rfl mm_oc220_2 (mm_cks_seg 48 144 192 rfl mm_oc220_3 (mm_cks_seg 48 192 240 rfl mm_oc220_4 mm_oc220_5)))))
theorem mm_ok221 : mm_ckm mm_ms mm_m221 = true := by decide +kernel
theorem mm_ok222 : mm_ckm mm_ms mm_m222 = true := by decide +kernel
theorem mm_ok223 : mm_ckm mm_ms mm_m223 = true := by decide +kernel
theorem mm_ok224 : mm_ckm mm_ms mm_m224 = true := by decide +kernel
theorem mm_oh225 : mm_ckh mm_m225 = true := by decide +kernel
theorem mm_oc225_0 : mm_cks mm_ms (mm_My mm_m225) (mm_Mb mm_m225) (mm_Ml mm_m225) 0 (((mm_Mc mm_m225).drop 0).take 48) = true := by decide +kernel
theorem mm_oc225_1 : mm_cks mm_ms (mm_My mm_m225) (mm_Mb mm_m225) (mm_Ml mm_m225) 48 (((mm_Mc mm_m225).drop 48).take 48) = true := by decide +kernel
theorem mm_oc225_2 : mm_cks mm_ms (mm_My mm_m225) (mm_Mb mm_m225) (mm_Ml mm_m225) 96 (((mm_Mc mm_m225).drop 96).take 48) = true := by decide +kernel
theorem mm_oc225_3 : mm_cks mm_ms (mm_My mm_m225) (mm_Mb mm_m225) (mm_Ml mm_m225) 144 ((mm_Mc mm_m225).drop 144) = true := by decide +kernel
theorem mm_ok225 : mm_ckm mm_ms mm_m225 = true := mm_ckm_of mm_oh225 (mm_cks_seg 48 0 48 rfl mm_oc225_0 (mm_cks_seg 48 48 96 rfl mm_oc225_1 (mm_cks_seg 48 96 144 rfl mm_oc225_2 mm_oc225_3)))
theorem mm_oh226 : mm_ckh mm_m226 = true := by decide +kernel
theorem mm_oc226_0 : mm_cks mm_ms (mm_My mm_m226) (mm_Mb mm_m226) (mm_Ml mm_m226) 0 (((mm_Mc mm_m226).drop 0).take 48) = true := by decide +kernel
theorem mm_oc226_1 : mm_cks mm_ms (mm_My mm_m226) (mm_Mb mm_m226) (mm_Ml mm_m226) 48 (((mm_Mc mm_m226).drop 48).take 48) = true := by decide +kernel
theorem mm_oc226_2 : mm_cks mm_ms (mm_My mm_m226) (mm_Mb mm_m226) (mm_Ml mm_m226) 96 (((mm_Mc mm_m226).drop 96).take 48) = true := by decide +kernel
theorem mm_oc226_3 : mm_cks mm_ms (mm_My mm_m226) (mm_Mb mm_m226) (mm_Ml mm_m226) 144 (((mm_Mc mm_m226).drop 144).take 48) = true := by decide +kernel
theorem mm_oc226_4 : mm_cks mm_ms (mm_My mm_m226) (mm_Mb mm_m226) (mm_Ml mm_m226) 192 ((mm_Mc mm_m226).drop 192) = true := by decide +kernel
theorem mm_ok226 : mm_ckm mm_ms mm_m226 = true := mm_ckm_of mm_oh226 (mm_cks_seg 48 0 48 rfl mm_oc226_0 (mm_cks_seg 48 48 96 rfl mm_oc226_1 (mm_cks_seg 48 96 144 rfl mm_oc226_2 (mm_cks_seg 48 144 192 rfl mm_oc226_3 mm_oc226_4))))
theorem mm_oh227 : mm_ckh mm_m227 = true := by decide +kernel
theorem mm_oc227_0 : mm_cks mm_ms (mm_My mm_m227) (mm_Mb mm_m227) (mm_Ml mm_m227) 0 (((mm_Mc mm_m227).drop 0).take 48) = true := by decide +kernel
theorem mm_oc227_1 : mm_cks mm_ms (mm_My mm_m227) (mm_Mb mm_m227) (mm_Ml mm_m227) 48 (((mm_Mc mm_m227).drop 48).take 48) = true := by decide +kernel
theorem mm_oc227_2 : mm_cks mm_ms (mm_My mm_m227) (mm_Mb mm_m227) (mm_Ml mm_m227) 96 ((mm_Mc mm_m227).drop 96) = true := by decide +kernel
theorem mm_ok227 : mm_ckm mm_ms mm_m227 = true := mm_ckm_of mm_oh227 (mm_cks_seg 48 0 48 rfl mm_oc227_0 (mm_cks_seg 48 48 96 rfl mm_oc227_1 mm_oc227_2))
theorem mm_oh228 : mm_ckh mm_m228 = true := by decide +kernel
theorem mm_oc228_0 : mm_cks mm_ms (mm_My mm_m228) (mm_Mb mm_m228) (mm_Ml mm_m228) 0 (((mm_Mc mm_m228).drop 0).take 48) = true := by decide +kernel
theorem mm_oc228_1 : mm_cks mm_ms (mm_My mm_m228) (mm_Mb mm_m228) (mm_Ml mm_m228) 48 (((mm_Mc mm_m228).drop 48).take 48) = true := by decide +kernel
theorem mm_oc228_2 : mm_cks mm_ms (mm_My mm_m228) (mm_Mb mm_m228) (mm_Ml mm_m228) 96 (((mm_Mc mm_m228).drop 96).take 48) = true := by decide +kernel
theorem mm_oc228_3 : mm_cks mm_ms (mm_My mm_m228) (mm_Mb mm_m228) (mm_Ml mm_m228) 144 (((mm_Mc mm_m228).drop 144).take 48) = true := by decide +kernel
theorem mm_oc228_4 : mm_cks mm_ms (mm_My mm_m228) (mm_Mb mm_m228) (mm_Ml mm_m228) 192 ((mm_Mc mm_m228).drop 192) = true := by decide +kernel
theorem mm_ok228 : mm_ckm mm_ms mm_m228 = true := mm_ckm_of mm_oh228 (mm_cks_seg 48 0 48 rfl mm_oc228_0 (mm_cks_seg 48 48 96 rfl mm_oc228_1 (mm_cks_seg 48 96 144 rfl mm_oc228_2 (mm_cks_seg 48 144 192 rfl mm_oc228_3 mm_oc228_4))))
theorem mm_ok229 : mm_ckm mm_ms mm_m229 = true := by decide +kernel
theorem mm_ok230 : mm_ckm mm_ms mm_m230 = true := by decide +kernel
theorem mm_ok231 : mm_ckm mm_ms mm_m231 = true := by decide +kernel
theorem mm_oh232 : mm_ckh mm_m232 = true := by decide +kernel
theorem mm_oc232_0 : mm_cks mm_ms (mm_My mm_m232) (mm_Mb mm_m232) (mm_Ml mm_m232) 0 (((mm_Mc mm_m232).drop 0).take 48) = true := by decide +kernel
theorem mm_oc232_1 : mm_cks mm_ms (mm_My mm_m232) (mm_Mb mm_m232) (mm_Ml mm_m232) 48 ((mm_Mc mm_m232).drop 48) = true := by decide +kernel
theorem mm_ok232 : mm_ckm mm_ms mm_m232 = true := mm_ckm_of mm_oh232 (mm_cks_seg 48 0 48 rfl mm_oc232_0 mm_oc232_1)
theorem mm_ok233 : mm_ckm mm_ms mm_m233 = true := by decide +kernel
theorem mm_oh234 : mm_ckh mm_m234 = true := by decide +kernel
theorem mm_oc234_0 : mm_cks mm_ms (mm_My mm_m234) (mm_Mb mm_m234) (mm_Ml mm_m234) 0 (((mm_Mc mm_m234).drop 0).take 48) = true := by decide +kernel
theorem mm_oc234_1 : mm_cks mm_ms (mm_My mm_m234) (mm_Mb mm_m234) (mm_Ml mm_m234) 48 (((mm_Mc mm_m234).drop 48).take 48) = true := by decide +kernel
theorem mm_oc234_2 : mm_cks mm_ms (mm_My mm_m234) (mm_Mb mm_m234) (mm_Ml mm_m234) 96 ((mm_Mc mm_m234).drop 96) = true := by decide +kernel
theorem mm_ok234 : mm_ckm mm_ms mm_m234 = true := mm_ckm_of mm_oh234 (mm_cks_seg 48 0 48 rfl mm_oc234_0 (mm_cks_seg 48 48 96 rfl mm_oc234_1 mm_oc234_2))
theorem mm_oh235 : mm_ckh mm_m235 = true := by decide +kernel
theorem mm_oc235_0 : mm_cks mm_ms (mm_My mm_m235) (mm_Mb mm_m235) (mm_Ml mm_m235) 0 (((mm_Mc mm_m235).drop 0).take 48) = true := by decide +kernel
theorem mm_oc235_1 : mm_cks mm_ms (mm_My mm_m235) (mm_Mb mm_m235) (mm_Ml mm_m235) 48 (((mm_Mc mm_m235).drop 48).take 48) = true := by decide +kernel
theorem mm_oc235_2 : mm_cks mm_ms (mm_My mm_m235) (mm_Mb mm_m235) (mm_Ml mm_m235) 96 ((mm_Mc mm_m235).drop 96) = true := by decide +kernel
theorem mm_ok235 : mm_ckm mm_ms mm_m235 = true := mm_ckm_of mm_oh235 (mm_cks_seg 48 0 48 rfl mm_oc235_0 (mm_cks_seg 48 48 96 rfl mm_oc235_1 mm_oc235_2))
theorem mm_ok236 : mm_ckm mm_ms mm_m236 = true := by decide +kernel
set_option maxRecDepth 100000 in
theorem mm_all : ∀ M ∈ mm_ms, mm_ckm mm_ms M = true := List.forall_mem_cons.mpr ⟨mm_ok0, List.forall_mem_cons.mpr ⟨mm_ok1, List.forall_mem_cons.mpr ⟨mm_ok2, List.forall_mem_cons.mpr ⟨mm_ok3, List.forall_mem_cons.mpr ⟨mm_ok4, List.forall_mem_cons.mpr ⟨mm_ok5, List.forall_mem_cons.mpr ⟨mm_ok6, List.forall_mem_cons.mpr ⟨mm_ok7, List.forall_mem_cons.mpr ⟨mm_ok8, List.forall_mem_cons.mpr ⟨mm_ok9, List.forall_mem_cons.mpr ⟨mm_ok10, List.forall_mem_cons.mpr ⟨mm_ok11, List.forall_mem_cons.mpr ⟨mm_ok12, List.forall_mem_cons.mpr ⟨mm_ok13, List.forall_mem_cons.mpr ⟨mm_ok14, List.forall_mem_cons.mpr ⟨mm_ok15, List.forall_mem_cons.mpr ⟨mm_ok16, List.forall_mem_cons.mpr ⟨mm_ok17, List.forall_mem_cons.mpr ⟨mm_ok18, List.forall_mem_cons.mpr ⟨mm_ok19, List.forall_mem_cons.mpr ⟨mm_ok20, List.forall_mem_cons.mpr ⟨mm_ok21, List.forall_mem_cons.mpr ⟨mm_ok22, List.forall_mem_cons.mpr ⟨mm_ok23, List.forall_mem_cons.mpr ⟨mm_ok24, List.forall_mem_cons.mpr ⟨mm_ok25, List.forall_mem_cons.mpr ⟨mm_ok26, List.forall_mem_cons.mpr ⟨mm_ok27, List.forall_mem_cons.mpr ⟨mm_ok28, List.forall_mem_cons.mpr ⟨mm_ok29, List.forall_mem_cons.mpr ⟨mm_ok30, List.forall_mem_cons.mpr ⟨mm_ok31, List.forall_mem_cons.mpr ⟨mm_ok32, List.forall_mem_cons.mpr ⟨mm_ok33, List.forall_mem_cons.mpr ⟨mm_ok34, List.forall_mem_cons.mpr ⟨mm_ok35, List.forall_mem_cons.mpr ⟨mm_ok36, List.forall_mem_cons.mpr ⟨mm_ok37, List.forall_mem_cons.mpr ⟨mm_ok38, List.forall_mem_cons.mpr ⟨mm_ok39, List.forall_mem_cons.mpr ⟨mm_ok40, List.forall_mem_cons.mpr ⟨mm_ok41, List.forall_mem_cons.mpr ⟨mm_ok42, List.forall_mem_cons.mpr ⟨mm_ok43, List.forall_mem_cons.mpr ⟨mm_ok44, List.forall_mem_cons.mpr ⟨mm_ok45, List.forall_mem_cons.mpr ⟨mm_ok46, List.forall_mem_cons.mpr ⟨mm_ok47, List.forall_mem_cons.mpr ⟨mm_ok48, List.forall_mem_cons.mpr ⟨mm_ok49, List.forall_mem_cons.mpr ⟨mm_ok50, List.forall_mem_cons.mpr ⟨mm_ok51, List.forall_mem_cons.mpr ⟨mm_ok52, List.forall_mem_cons.mpr ⟨mm_ok53, List.forall_mem_cons.mpr ⟨mm_ok54, List.forall_mem_cons.mpr ⟨mm_ok55, List.forall_mem_cons.mpr ⟨mm_ok56, List.forall_mem_cons.mpr ⟨mm_ok57, List.forall_mem_cons.mpr ⟨mm_ok58, List.forall_mem_cons.mpr ⟨mm_ok59, List.forall_mem_cons.mpr ⟨mm_ok60, List.forall_mem_cons.mpr ⟨mm_ok61, List.forall_mem_cons.mpr ⟨mm_ok62, List.forall_mem_cons.mpr ⟨mm_ok63, List.forall_mem_cons.mpr ⟨mm_ok64, List.forall_mem_cons.mpr ⟨mm_ok65, List.forall_mem_cons.mpr ⟨mm_ok66, List.forall_mem_cons.mpr ⟨mm_ok67, List.forall_mem_cons.mpr ⟨mm_ok68, List.forall_mem_cons.mpr ⟨mm_ok69, List.forall_mem_cons.mpr ⟨mm_ok70, List.forall_mem_cons.mpr ⟨mm_ok71, List.forall_mem_cons.mpr ⟨mm_ok72, List.forall_mem_cons.mpr ⟨mm_ok73, List.forall_mem_cons.mpr ⟨mm_ok74, List.forall_mem_cons.mpr ⟨mm_ok75, List.forall_mem_cons.mpr ⟨mm_ok76, List.forall_mem_cons.mpr ⟨mm_ok77, List.forall_mem_cons.mpr ⟨mm_ok78, List.forall_mem_cons.mpr ⟨mm_ok79, List.forall_mem_cons.mpr ⟨mm_ok80, List.forall_mem_cons.mpr ⟨mm_ok81, List.forall_mem_cons.mpr ⟨mm_ok82, List.forall_mem_cons.mpr ⟨mm_ok83, List.forall_mem_cons.mpr ⟨mm_ok84, List.forall_mem_cons.mpr ⟨mm_ok85, List.forall_mem_cons.mpr ⟨mm_ok86, List.forall_mem_cons.mpr ⟨mm_ok87, List.forall_mem_cons.mpr ⟨mm_ok88, List.forall_mem_cons.mpr ⟨mm_ok89, List.forall_mem_cons.mpr ⟨mm_ok90, List.forall_mem_cons.mpr ⟨mm_ok91, List.forall_mem_cons.mpr ⟨mm_ok92, List.forall_mem_cons.mpr ⟨mm_ok93, List.forall_mem_cons.mpr ⟨mm_ok94, List.forall_mem_cons.mpr ⟨mm_ok95, List.forall_mem_cons.mpr ⟨mm_ok96, List.forall_mem_cons.mpr ⟨mm_ok97, List.forall_mem_cons.mpr ⟨mm_ok98, List.forall_mem_cons.mpr ⟨mm_ok99, List.forall_mem_cons.mpr ⟨mm_ok100, List.forall_mem_cons.mpr ⟨mm_ok101, List.forall_mem_cons.mpr ⟨mm_ok102, List.forall_mem_cons.mpr ⟨mm_ok103, List.forall_mem_cons.mpr ⟨mm_ok104, List.forall_mem_cons.mpr ⟨mm_ok105, List.forall_mem_cons.mpr ⟨mm_ok106, List.forall_mem_cons.mpr ⟨mm_ok107, List.forall_mem_cons.mpr ⟨mm_ok108, List.forall_mem_cons.mpr ⟨mm_ok109, List.forall_mem_cons.mpr ⟨mm_ok110, List.forall_mem_cons.mpr ⟨mm_ok111, List.forall_mem_cons.mpr ⟨mm_ok112, List.forall_mem_cons.mpr ⟨mm_ok113, List.forall_mem_cons.mpr ⟨mm_ok114, List.forall_mem_cons.mpr ⟨mm_ok115, List.forall_mem_cons.mpr ⟨mm_ok116, List.forall_mem_cons.mpr ⟨mm_ok117, List.forall_mem_cons.mpr ⟨mm_ok118, List.forall_mem_cons.mpr ⟨mm_ok119, List.forall_mem_cons.mpr ⟨mm_ok120, List.forall_mem_cons.mpr ⟨mm_ok121, List.forall_mem_cons.mpr ⟨mm_ok122, List.forall_mem_cons.mpr ⟨mm_ok123, List.forall_mem_cons.mpr ⟨mm_ok124, List.forall_mem_cons.mpr ⟨mm_ok125, List.forall_mem_cons.mpr ⟨mm_ok126, List.forall_mem_cons.mpr ⟨mm_ok127, List.forall_mem_cons.mpr ⟨mm_ok128, List.forall_mem_cons.mpr ⟨mm_ok129, List.forall_mem_cons.mpr ⟨mm_ok130, List.forall_mem_cons.mpr ⟨mm_ok131, List.forall_mem_cons.mpr ⟨mm_ok132, List.forall_mem_cons.mpr ⟨mm_ok133, List.forall_mem_cons.mpr ⟨mm_ok134, List.forall_mem_cons.mpr ⟨mm_ok135, List.forall_mem_cons.mpr ⟨mm_ok136, List.forall_mem_cons.mpr ⟨mm_ok137, List.forall_mem_cons.mpr ⟨mm_ok138, List.forall_mem_cons.mpr ⟨mm_ok139, List.forall_mem_cons.mpr ⟨mm_ok140, List.forall_mem_cons.mpr ⟨mm_ok141, List.forall_mem_cons.mpr ⟨mm_ok142, List.forall_mem_cons.mpr ⟨mm_ok143, List.forall_mem_cons.mpr ⟨mm_ok144, List.forall_mem_cons.mpr ⟨mm_ok145, List.forall_mem_cons.mpr ⟨mm_ok146, List.forall_mem_cons.mpr ⟨mm_ok147, List.forall_mem_cons.mpr ⟨mm_ok148, List.forall_mem_cons.mpr ⟨mm_ok149, List.forall_mem_cons.mpr ⟨mm_ok150, List.forall_mem_cons.mpr ⟨mm_ok151, List.forall_mem_cons.mpr ⟨mm_ok152, List.forall_mem_cons.mpr ⟨mm_ok153, List.forall_mem_cons.mpr ⟨mm_ok154, List.forall_mem_cons.mpr ⟨mm_ok155, List.forall_mem_cons.mpr ⟨mm_ok156, List.forall_mem_cons.mpr ⟨mm_ok157, List.forall_mem_cons.mpr ⟨mm_ok158, List.forall_mem_cons.mpr ⟨mm_ok159, List.forall_mem_cons.mpr ⟨mm_ok160, List.forall_mem_cons.mpr ⟨mm_ok161, List.forall_mem_cons.mpr ⟨mm_ok162, List.forall_mem_cons.mpr ⟨mm_ok163, List.forall_mem_cons.mpr ⟨mm_ok164, List.forall_mem_cons.mpr ⟨mm_ok165, List.forall_mem_cons.mpr ⟨mm_ok166, List.forall_mem_cons.mpr ⟨mm_ok167, List.forall_mem_cons.mpr ⟨mm_ok168, List.forall_mem_cons.mpr ⟨mm_ok169, List.forall_mem_cons.mpr ⟨mm_ok170, List.forall_mem_cons.mpr ⟨mm_ok171, List.forall_mem_cons.mpr ⟨mm_ok172, List.forall_mem_cons.mpr ⟨mm_ok173, List.forall_mem_cons.mpr ⟨mm_ok174, List.forall_mem_cons.mpr ⟨mm_ok175, List.forall_mem_cons.mpr ⟨mm_ok176, List.forall_mem_cons.mpr ⟨mm_ok177, List.forall_mem_cons.mpr ⟨mm_ok178, List.forall_mem_cons.mpr ⟨mm_ok179, List.forall_mem_cons.mpr ⟨mm_ok180, List.forall_mem_cons.mpr ⟨mm_ok181, List.forall_mem_cons.mpr ⟨mm_ok182, List.forall_mem_cons.mpr ⟨mm_ok183, List.forall_mem_cons.mpr ⟨mm_ok184, List.forall_mem_cons.mpr ⟨mm_ok185, List.forall_mem_cons.mpr ⟨mm_ok186, List.forall_mem_cons.mpr ⟨mm_ok187, List.forall_mem_cons.mpr ⟨mm_ok188, List.forall_mem_cons.mpr ⟨mm_ok189, List.forall_mem_cons.mpr ⟨mm_ok190, List.forall_mem_cons.mpr ⟨mm_ok191, List.forall_mem_cons.mpr ⟨mm_ok192, List.forall_mem_cons.mpr ⟨mm_ok193, List.forall_mem_cons.mpr ⟨mm_ok194, List.forall_mem_cons.mpr ⟨mm_ok195, List.forall_mem_cons.mpr ⟨mm_ok196, List.forall_mem_cons.mpr ⟨mm_ok197, List.forall_mem_cons.mpr ⟨mm_ok198, List.forall_mem_cons.mpr ⟨mm_ok199, List.forall_mem_cons.mpr ⟨mm_ok200, List.forall_mem_cons.mpr ⟨mm_ok201, List.forall_mem_cons.mpr ⟨mm_ok202, List.forall_mem_cons.mpr ⟨mm_ok203, List.forall_mem_cons.mpr ⟨mm_ok204, List.forall_mem_cons.mpr ⟨mm_ok205, List.forall_mem_cons.mpr ⟨mm_ok206, List.forall_mem_cons.mpr ⟨mm_ok207, List.forall_mem_cons.mpr ⟨mm_ok208, List.forall_mem_cons.mpr ⟨mm_ok209, List.forall_mem_cons.mpr ⟨mm_ok210, List.forall_mem_cons.mpr ⟨mm_ok211, List.forall_mem_cons.mpr ⟨mm_ok212, List.forall_mem_cons.mpr ⟨mm_ok213, List.forall_mem_cons.mpr ⟨mm_ok214, List.forall_mem_cons.mpr ⟨mm_ok215, List.forall_mem_cons.mpr ⟨mm_ok216, List.forall_mem_cons.mpr ⟨mm_ok217, List.forall_mem_cons.mpr ⟨mm_ok218, List.forall_mem_cons.mpr ⟨mm_ok219, List.forall_mem_cons.mpr ⟨mm_ok220, List.forall_mem_cons.mpr ⟨mm_ok221, List.forall_mem_cons.mpr ⟨mm_ok222, List.forall_mem_cons.mpr ⟨mm_ok223, List.forall_mem_cons.mpr ⟨mm_ok224, List.forall_mem_cons.mpr ⟨mm_ok225, List.forall_mem_cons.mpr ⟨mm_ok226, List.forall_mem_cons.mpr ⟨mm_ok227, List.forall_mem_cons.mpr ⟨mm_ok228, List.forall_mem_cons.mpr ⟨mm_ok229, List.forall_mem_cons.mpr ⟨mm_ok230, List.forall_mem_cons.mpr ⟨mm_ok231, List.forall_mem_cons.mpr ⟨mm_ok232, List.forall_mem_cons.mpr ⟨mm_ok233, List.forall_mem_cons.mpr ⟨mm_ok234, List.forall_mem_cons.mpr ⟨mm_ok235, List.forall_mem_cons.mpr ⟨mm_ok236, fun _ h => absurd h List.not_mem_nil⟩⟩⟩⟩⟩⟩⟩⟩⟩⟩⟩⟩⟩⟩⟩⟩⟩⟩⟩⟩⟩⟩⟩⟩⟩⟩⟩⟩⟩⟩⟩⟩⟩⟩⟩⟩⟩⟩⟩⟩⟩⟩⟩⟩⟩⟩⟩⟩⟩⟩⟩⟩⟩⟩⟩⟩⟩⟩⟩⟩⟩⟩⟩⟩⟩⟩⟩⟩⟩⟩⟩⟩⟩⟩⟩⟩⟩⟩⟩⟩⟩⟩⟩⟩⟩⟩⟩⟩⟩⟩⟩⟩⟩⟩⟩⟩⟩⟩⟩⟩⟩⟩⟩⟩⟩⟩⟩⟩⟩⟩⟩⟩⟩⟩⟩⟩⟩⟩⟩⟩⟩⟩⟩⟩⟩⟩⟩⟩⟩⟩⟩⟩⟩⟩⟩⟩⟩⟩⟩⟩⟩⟩⟩⟩⟩⟩⟩⟩⟩⟩⟩⟩⟩⟩⟩⟩⟩⟩⟩⟩⟩⟩⟩⟩⟩⟩⟩⟩⟩⟩⟩⟩⟩⟩⟩⟩⟩⟩⟩⟩⟩⟩⟩⟩⟩⟩⟩⟩⟩⟩⟩⟩⟩⟩⟩⟩⟩⟩⟩⟩⟩⟩⟩⟩⟩⟩⟩⟩⟩⟩⟩⟩⟩⟩⟩⟩⟩⟩⟩⟩⟩⟩⟩⟩⟩⟩⟩⟩⟩⟩⟩⟩⟩⟩⟩⟩⟩
theorem mm_ocL_0 : mm_cks mm_ms x code 4 0 ((mm_kL.drop 0).take 48) = true := by decide +kernel
theorem mm_ocL_1 : mm_cks mm_ms x code 4 48 ((mm_kL.drop 48).take 48) = true := by decide +kernel
theorem mm_ocL_2 : mm_cks mm_ms x code 4 96 ((mm_kL.drop 96).take 48) = true := by decide +kernel
theorem mm_ocL_3 : mm_cks mm_ms x code 4 144 ((mm_kL.drop 144).take 48) = true := by decide +kernel
theorem mm_ocL_4 : mm_cks mm_ms x code 4 192 ((mm_kL.drop 192).take 48) = true := by decide +kernel
theorem mm_ocL_5 : mm_cks mm_ms x code 4 240 ((mm_kL.drop 240).take 48) = true := by decide +kernel
theorem mm_ocL_6 : mm_cks mm_ms x code 4 288 ((mm_kL.drop 288).take 48) = true := by decide +kernel
theorem mm_ocL_7 : mm_cks mm_ms x code 4 336 ((mm_kL.drop 336).take 48) = true := by decide +kernel
theorem mm_ocL_8 : mm_cks mm_ms x code 4 384 ((mm_kL.drop 384).take 48) = true := by decide +kernel
theorem mm_ocL_9 : mm_cks mm_ms x code 4 432 ((mm_kL.drop 432).take 48) = true := by decide +kernel
theorem mm_ocL_10 : mm_cks mm_ms x code 4 480 ((mm_kL.drop 480).take 48) = true := by decide +kernel
theorem mm_ocL_11 : mm_cks mm_ms x code 4 528 ((mm_kL.drop 528).take 48) = true := by decide +kernel
theorem mm_ocL_12 : mm_cks mm_ms x code 4 576 ((mm_kL.drop 576).take 48) = true := by decide +kernel
theorem mm_ocL_13 : mm_cks mm_ms x code 4 624 (mm_kL.drop 624) = true := by decide +kernel
theorem mm_okL : mm_cks mm_ms x code 4 0 mm_kL = true := by
  have h : mm_cks mm_ms x code 4 0 (mm_kL.drop 0) = true := (mm_cks_seg 48 0 48 rfl mm_ocL_0 (mm_cks_seg 48 48 96 rfl mm_ocL_1 (mm_cks_seg 48 96 144 rfl mm_ocL_2 (mm_cks_seg 48 144 192 rfl mm_ocL_3 (mm_cks_seg 48 192 240 rfl mm_ocL_4 (mm_cks_seg 48 240 288 rfl mm_ocL_5 (mm_cks_seg 48 288 336 rfl mm_ocL_6 (mm_cks_seg 48 336 384 rfl mm_ocL_7 (mm_cks_seg 48 384 432 rfl mm_ocL_8 (mm_cks_seg 48 432 480 rfl mm_ocL_9 (mm_cks_seg 48 480 528 rfl mm_ocL_10 (mm_cks_seg 48 528 576 rfl mm_ocL_11 (mm_cks_seg 48 576 624 rfl mm_ocL_12 mm_ocL_13)))))))))))))
  rw [List.drop_zero] at h
  exact h
theorem mm_allM : ∀ (mi : Nat) (M : mm_M), mm_ms[mi]? = some M → mm_ckm mm_ms M = true := fun _ M h => mm_all M (List.mem_of_getElem? h)
