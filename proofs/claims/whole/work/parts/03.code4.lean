set_option maxRecDepth 100000 in
theorem okm_210 : okM 1573 mi_210 := okM_of (by decide +kernel) (by decide +kernel) ⟨by decide +kernel, by decide +kernel⟩ (by decide +kernel) (by decide +kernel) (by decide +kernel)
set_option maxRecDepth 100000 in
theorem okm_211 : okM 1565 mi_211 := okM_of (all_cut _ (mi_211.2.2.2.2) 60 (by decide +kernel) (by decide +kernel)) (by decide +kernel) ⟨by decide +kernel, by decide +kernel⟩ (by decide +kernel) (by decide +kernel) (by decide +kernel)
set_option maxRecDepth 100000 in
theorem okm_212 : okM 1557 mi_212 := okM_of (all_cut _ (mi_212.2.2.2.2) 60 (by decide +kernel) (by decide +kernel)) (by decide +kernel) ⟨by decide +kernel, by decide +kernel⟩ (by decide +kernel) (by decide +kernel) (by decide +kernel)
set_option maxRecDepth 100000 in
theorem okm_213 : okM 1553 mi_213 := okM_of (by decide +kernel) (by decide +kernel) ⟨by decide +kernel, by decide +kernel⟩ (by decide +kernel) (by decide +kernel) (by decide +kernel)
set_option maxRecDepth 100000 in
theorem okm_214 : okM 1577 mi_214 := okM_of (all_cut _ (mi_214.2.2.2.2) 60 (by decide +kernel) (by decide +kernel)) (by decide +kernel) ⟨by decide +kernel, by decide +kernel⟩ (by decide +kernel) (by decide +kernel) (by decide +kernel)
set_option maxRecDepth 100000 in
theorem okm_215 : okM 1589 mi_215 := okM_of (by decide +kernel) (by decide +kernel) ⟨by decide +kernel, by decide +kernel⟩ (by decide +kernel) (by decide +kernel) (by decide +kernel)
set_option maxRecDepth 100000 in
theorem okm_216 : okM 1593 mi_216 := okM_of (all_cut _ (mi_216.2.2.2.2) 60 (by decide +kernel) (all_cut _ ((mi_216.2.2.2.2).drop 60) 60 (by decide +kernel) (by decide +kernel))) (by decide +kernel) ⟨by decide +kernel, by decide +kernel⟩ (by decide +kernel) (by decide +kernel) (by decide +kernel)
set_option maxRecDepth 100000 in
theorem okm_217 : okM 1597 mi_217 := okM_of (by decide +kernel) (by decide +kernel) ⟨by decide +kernel, by decide +kernel⟩ (by decide +kernel) (by decide +kernel) (by decide +kernel)
set_option maxRecDepth 100000 in
theorem okm_218 : okM 1601 mi_218 := okM_of (by decide +kernel) (by decide +kernel) ⟨by decide +kernel, by decide +kernel⟩ (by decide +kernel) (by decide +kernel) (by decide +kernel)
set_option maxRecDepth 100000 in
theorem okm_219 : okM 1585 mi_219 := okM_of (all_cut _ (mi_219.2.2.2.2) 60 (by decide +kernel) (by decide +kernel)) (by decide +kernel) ⟨by decide +kernel, by decide +kernel⟩ (by decide +kernel) (by decide +kernel) (by decide +kernel)
set_option maxRecDepth 100000 in
theorem okm_220 : okM 1581 mi_220 := okM_of (by decide +kernel) (by decide +kernel) ⟨by decide +kernel, by decide +kernel⟩ (by decide +kernel) (by decide +kernel) (by decide +kernel)
set_option maxRecDepth 100000 in
theorem okm_221 : okM 1605 mi_221 := okM_of (by decide +kernel) (by decide +kernel) ⟨by decide +kernel, by decide +kernel⟩ (by decide +kernel) (by decide +kernel) (by decide +kernel)
set_option maxRecDepth 100000 in
theorem okm_222 : okM 1609 mi_222 := okM_of (by decide +kernel) (by decide +kernel) ⟨by decide +kernel, by decide +kernel⟩ (by decide +kernel) (by decide +kernel) (by decide +kernel)
set_option maxRecDepth 100000 in
theorem okm_223 : okM 1617 mi_223 := okM_of (by decide +kernel) (by decide +kernel) ⟨by decide +kernel, by decide +kernel⟩ (by decide +kernel) (by decide +kernel) (by decide +kernel)
set_option maxRecDepth 100000 in
theorem okm_224 : okM 1625 mi_224 := okM_of (by decide +kernel) (by decide +kernel) ⟨by decide +kernel, by decide +kernel⟩ (by decide +kernel) (by decide +kernel) (by decide +kernel)
set_option maxRecDepth 100000 in
theorem okm_225 : okM 1621 mi_225 := okM_of (by decide +kernel) (by decide +kernel) ⟨by decide +kernel, by decide +kernel⟩ (by decide +kernel) (by decide +kernel) (by decide +kernel)
set_option maxRecDepth 100000 in
theorem okm_226 : okM 1629 mi_226 := okM_of (by decide +kernel) (by decide +kernel) ⟨by decide +kernel, by decide +kernel⟩ (by decide +kernel) (by decide +kernel) (by decide +kernel)
set_option maxRecDepth 100000 in
theorem okm_227 : okM 1613 mi_227 := okM_of (all_cut _ (mi_227.2.2.2.2) 60 (by decide +kernel) (by decide +kernel)) (by decide +kernel) ⟨by decide +kernel, by decide +kernel⟩ (by decide +kernel) (by decide +kernel) (by decide +kernel)
set_option maxRecDepth 100000 in
theorem okm_228 : okM 1633 mi_228 := okM_of (by decide +kernel) (by decide +kernel) ⟨by decide +kernel, by decide +kernel⟩ (by decide +kernel) (by decide +kernel) (by decide +kernel)
set_option maxRecDepth 100000 in
theorem okm_229 : okM 1637 mi_229 := okM_of (by decide +kernel) (by decide +kernel) ⟨by decide +kernel, by decide +kernel⟩ (by decide +kernel) (by decide +kernel) (by decide +kernel)
set_option maxRecDepth 100000 in
theorem okm_230 : okM 1641 mi_230 := okM_of (by decide +kernel) (by decide +kernel) ⟨by decide +kernel, by decide +kernel⟩ (by decide +kernel) (by decide +kernel) (by decide +kernel)
set_option maxRecDepth 100000 in
theorem okm_231 : okM 1046 mi_231 := okM_of (by decide +kernel) (by decide +kernel) ⟨by decide +kernel, by decide +kernel⟩ (by decide +kernel) (by decide +kernel) (by decide +kernel)
set_option maxRecDepth 100000 in
theorem okm_232 : okM 861 mi_232 := okM_of (by decide +kernel) (by decide +kernel) ⟨by decide +kernel, by decide +kernel⟩ (by decide +kernel) (by decide +kernel) (by decide +kernel)
set_option maxRecDepth 100000 in
theorem okm_233 : okM 871 mi_233 := okM_of (by decide +kernel) (by decide +kernel) ⟨by decide +kernel, by decide +kernel⟩ (by decide +kernel) (by decide +kernel) (by decide +kernel)
set_option maxRecDepth 100000 in
theorem okm_234 : okM 865 mi_234 := okM_of (by decide +kernel) (by decide +kernel) ⟨by decide +kernel, by decide +kernel⟩ (by decide +kernel) (by decide +kernel) (by decide +kernel)
set_option maxRecDepth 100000 in
theorem okm_235 : okM 875 mi_235 := okM_of (by decide +kernel) (by decide +kernel) ⟨by decide +kernel, by decide +kernel⟩ (by decide +kernel) (by decide +kernel) (by decide +kernel)
set_option maxRecDepth 100000 in
theorem okm_236 : okM 881 mi_236 := okM_of (by decide +kernel) (by decide +kernel) ⟨by decide +kernel, by decide +kernel⟩ (by decide +kernel) (by decide +kernel) (by decide +kernel)
set_option maxRecDepth 100000 in
theorem okm_237 : okM 878 mi_237 := okM_of (by decide +kernel) (by decide +kernel) ⟨by decide +kernel, by decide +kernel⟩ (by decide +kernel) (by decide +kernel) (by decide +kernel)
set_option maxRecDepth 100000 in
theorem okm_238 : okM 220 mi_238 := okM_of (by decide +kernel) (by decide +kernel) ⟨by decide +kernel, by decide +kernel⟩ (by decide +kernel) (by decide +kernel) (by decide +kernel)
set_option maxRecDepth 100000 in
theorem okm_239 : okM 886 mi_239 := okM_of (by decide +kernel) (by decide +kernel) ⟨by decide +kernel, by decide +kernel⟩ (by decide +kernel) (by decide +kernel) (by decide +kernel)
set_option maxRecDepth 100000 in
theorem okm_240 : okM 0 mi_240 := okM_of (all_cut _ (mi_240.2.2.2.2) 60 (by decide +kernel) (all_cut _ ((mi_240.2.2.2.2).drop 60) 60 (by decide +kernel) (all_cut _ (((mi_240.2.2.2.2).drop 60).drop 60) 60 (by decide +kernel) (all_cut _ ((((mi_240.2.2.2.2).drop 60).drop 60).drop 60) 60 (by decide +kernel) (all_cut _ (((((mi_240.2.2.2.2).drop 60).drop 60).drop 60).drop 60) 60 (by decide +kernel) (all_cut _ ((((((mi_240.2.2.2.2).drop 60).drop 60).drop 60).drop 60).drop 60) 60 (by decide +kernel) (all_cut _ (((((((mi_240.2.2.2.2).drop 60).drop 60).drop 60).drop 60).drop 60).drop 60) 60 (by decide +kernel) (all_cut _ ((((((((mi_240.2.2.2.2).drop 60).drop 60).drop 60).drop 60).drop 60).drop 60).drop 60) 60 (by decide +kernel) (all_cut _ (((((((((mi_240.2.2.2.2).drop 60).drop 60).drop 60).drop 60).drop 60).drop 60).drop 60).drop 60) 60 (by decide +kernel) (all_cut _ ((((((((((mi_240.2.2.2.2).drop 60).drop 60).drop 60).drop 60).drop 60).drop 60).drop 60).drop 60).drop 60) 60 (by decide +kernel) (all_cut _ (((((((((((mi_240.2.2.2.2).drop 60).drop 60).drop 60).drop 60).drop 60).drop 60).drop 60).drop 60).drop 60).drop 60) 60 (by decide +kernel) (all_cut _ ((((((((((((mi_240.2.2.2.2).drop 60).drop 60).drop 60).drop 60).drop 60).drop 60).drop 60).drop 60).drop 60).drop 60).drop 60) 60 (by decide +kernel) (all_cut _ (((((((((((((mi_240.2.2.2.2).drop 60).drop 60).drop 60).drop 60).drop 60).drop 60).drop 60).drop 60).drop 60).drop 60).drop 60).drop 60) 60 (by decide +kernel) (all_cut _ ((((((((((((((mi_240.2.2.2.2).drop 60).drop 60).drop 60).drop 60).drop 60).drop 60).drop 60).drop 60).drop 60).drop 60).drop 60).drop 60).drop 60) 60 (by decide +kernel) (all_cut _ (((((((((((((((mi_240.2.2.2.2).drop 60).drop 60).drop 60).drop 60).drop 60).drop 60).drop 60).drop 60).drop 60).drop 60).drop 60).drop 60).drop 60).drop 60) 60 (by decide +kernel) (all_cut _ ((((((((((((((((mi_240.2.2.2.2).drop 60).drop 60).drop 60).drop 60).drop 60).drop 60).drop 60).drop 60).drop 60).drop 60).drop 60).drop 60).drop 60).drop 60).drop 60) 60 (by decide +kernel) (by decide +kernel))))))))))))))))) (by decide +kernel) ⟨by decide +kernel, by decide +kernel⟩ (by decide +kernel) (by decide +kernel) (by decide +kernel)
