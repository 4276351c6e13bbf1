/-! The checks of some tables of the class. -/
section KOKM
theorem kd1_212 : KKm 212 := KKm_S (by decide +kernel) (show ∀ i, i < 16 → bAt 212 i = true by decide +kernel)
theorem kd1_213 : KKm 213 := KKm_S (by decide +kernel) (show ∀ i, i < 15 → bAt 213 i = true by decide +kernel)
theorem kd1_214 : KKm 214 := KKm_S (by decide +kernel) (show ∀ i, i < 23 → bAt 214 i = true by decide +kernel)
theorem kb_215_0 : ∀ i, i < 40 → bAt 215 (0 + i) = true := by decide +kernel
theorem kb_215_1 : ∀ i, i < 40 → bAt 215 (40 + i) = true := by decide +kernel
theorem kz_215 : okZ (kPP 215) = true ∧ (kPP 215).length = 44 := by decide +kernel
theorem kd1_215 : KKm 215 := by
  refine KKm_S kz_215.1 (fun i hi => ?_)
  rw [kz_215.2] at hi
  by_cases c0 : i < 40
  · have := kb_215_0 (i - 0) (by omega); rw [show 0 + (i - 0) = i by omega] at this; exact this
  by_cases c1 : i < 80
  · have := kb_215_1 (i - 40) (by omega); rw [show 40 + (i - 40) = i by omega] at this; exact this
  omega
theorem kd1_216 : KKm 216 := KKm_S (by decide +kernel) (show ∀ i, i < 29 → bAt 216 i = true by decide +kernel)
theorem kb_217_0 : ∀ i, i < 40 → bAt 217 (0 + i) = true := by decide +kernel
theorem kb_217_1 : ∀ i, i < 40 → bAt 217 (40 + i) = true := by decide +kernel
theorem kb_217_2 : ∀ i, i < 40 → bAt 217 (80 + i) = true := by decide +kernel
theorem kz_217 : okZ (kPP 217) = true ∧ (kPP 217).length = 104 := by decide +kernel
theorem kd1_217 : KKm 217 := by
  refine KKm_S kz_217.1 (fun i hi => ?_)
  rw [kz_217.2] at hi
  by_cases c0 : i < 40
  · have := kb_217_0 (i - 0) (by omega); rw [show 0 + (i - 0) = i by omega] at this; exact this
  by_cases c1 : i < 80
  · have := kb_217_1 (i - 40) (by omega); rw [show 40 + (i - 40) = i by omega] at this; exact this
  by_cases c2 : i < 120
  · have := kb_217_2 (i - 80) (by omega); rw [show 80 + (i - 80) = i by omega] at this; exact this
  omega
theorem kd1_218 : KKm 218 := KKm_S (by decide +kernel) (show ∀ i, i < 38 → bAt 218 i = true by decide +kernel)
theorem kb_219_0 : ∀ i, i < 40 → bAt 219 (0 + i) = true := by decide +kernel
theorem kb_219_1 : ∀ i, i < 40 → bAt 219 (40 + i) = true := by decide +kernel
theorem kz_219 : okZ (kPP 219) = true ∧ (kPP 219).length = 53 := by decide +kernel
theorem kd1_219 : KKm 219 := by
  refine KKm_S kz_219.1 (fun i hi => ?_)
  rw [kz_219.2] at hi
  by_cases c0 : i < 40
  · have := kb_219_0 (i - 0) (by omega); rw [show 0 + (i - 0) = i by omega] at this; exact this
  by_cases c1 : i < 80
  · have := kb_219_1 (i - 40) (by omega); rw [show 40 + (i - 40) = i by omega] at this; exact this
  omega
theorem kb_220_0 : ∀ i, i < 40 → bAt 220 (0 + i) = true := by decide +kernel
theorem kb_220_1 : ∀ i, i < 40 → bAt 220 (40 + i) = true := by decide +kernel
theorem kz_220 : okZ (kPP 220) = true ∧ (kPP 220).length = 51 := by decide +kernel
theorem kd1_220 : KKm 220 := by
  refine KKm_S kz_220.1 (fun i hi => ?_)
  rw [kz_220.2] at hi
  by_cases c0 : i < 40
  · have := kb_220_0 (i - 0) (by omega); rw [show 0 + (i - 0) = i by omega] at this; exact this
  by_cases c1 : i < 80
  · have := kb_220_1 (i - 40) (by omega); rw [show 40 + (i - 40) = i by omega] at this; exact this
  omega
theorem kb_221_0 : ∀ i, i < 40 → bAt 221 (0 + i) = true := by decide +kernel
theorem kb_221_1 : ∀ i, i < 40 → bAt 221 (40 + i) = true := by decide +kernel
theorem kz_221 : okZ (kPP 221) = true ∧ (kPP 221).length = 78 := by decide +kernel
theorem kd1_221 : KKm 221 := by
  refine KKm_S kz_221.1 (fun i hi => ?_)
  rw [kz_221.2] at hi
  by_cases c0 : i < 40
  · have := kb_221_0 (i - 0) (by omega); rw [show 0 + (i - 0) = i by omega] at this; exact this
  by_cases c1 : i < 80
  · have := kb_221_1 (i - 40) (by omega); rw [show 40 + (i - 40) = i by omega] at this; exact this
  omega
theorem kb_222_0 : ∀ i, i < 40 → bAt 222 (0 + i) = true := by decide +kernel
theorem kb_222_1 : ∀ i, i < 40 → bAt 222 (40 + i) = true := by decide +kernel
theorem kz_222 : okZ (kPP 222) = true ∧ (kPP 222).length = 44 := by decide +kernel
theorem kd1_222 : KKm 222 := by
  refine KKm_S kz_222.1 (fun i hi => ?_)
  rw [kz_222.2] at hi
  by_cases c0 : i < 40
  · have := kb_222_0 (i - 0) (by omega); rw [show 0 + (i - 0) = i by omega] at this; exact this
  by_cases c1 : i < 80
  · have := kb_222_1 (i - 40) (by omega); rw [show 40 + (i - 40) = i by omega] at this; exact this
  omega
theorem kb_223_0 : ∀ i, i < 40 → bAt 223 (0 + i) = true := by decide +kernel
theorem kb_223_1 : ∀ i, i < 40 → bAt 223 (40 + i) = true := by decide +kernel
theorem kz_223 : okZ (kPP 223) = true ∧ (kPP 223).length = 41 := by decide +kernel
theorem kd1_223 : KKm 223 := by
  refine KKm_S kz_223.1 (fun i hi => ?_)
  rw [kz_223.2] at hi
  by_cases c0 : i < 40
  · have := kb_223_0 (i - 0) (by omega); rw [show 0 + (i - 0) = i by omega] at this; exact this
  by_cases c1 : i < 80
  · have := kb_223_1 (i - 40) (by omega); rw [show 40 + (i - 40) = i by omega] at this; exact this
  omega
theorem kb_224_0 : ∀ i, i < 40 → bAt 224 (0 + i) = true := by decide +kernel
theorem kb_224_1 : ∀ i, i < 40 → bAt 224 (40 + i) = true := by decide +kernel
theorem kz_224 : okZ (kPP 224) = true ∧ (kPP 224).length = 75 := by decide +kernel
theorem kd1_224 : KKm 224 := by
  refine KKm_S kz_224.1 (fun i hi => ?_)
  rw [kz_224.2] at hi
  by_cases c0 : i < 40
  · have := kb_224_0 (i - 0) (by omega); rw [show 0 + (i - 0) = i by omega] at this; exact this
  by_cases c1 : i < 80
  · have := kb_224_1 (i - 40) (by omega); rw [show 40 + (i - 40) = i by omega] at this; exact this
  omega
theorem kb_225_0 : ∀ i, i < 40 → bAt 225 (0 + i) = true := by decide +kernel
theorem kb_225_1 : ∀ i, i < 40 → bAt 225 (40 + i) = true := by decide +kernel
theorem kz_225 : okZ (kPP 225) = true ∧ (kPP 225).length = 48 := by decide +kernel
theorem kd1_225 : KKm 225 := by
  refine KKm_S kz_225.1 (fun i hi => ?_)
  rw [kz_225.2] at hi
  by_cases c0 : i < 40
  · have := kb_225_0 (i - 0) (by omega); rw [show 0 + (i - 0) = i by omega] at this; exact this
  by_cases c1 : i < 80
  · have := kb_225_1 (i - 40) (by omega); rw [show 40 + (i - 40) = i by omega] at this; exact this
  omega
theorem kb_226_0 : ∀ i, i < 40 → bAt 226 (0 + i) = true := by decide +kernel
theorem kb_226_1 : ∀ i, i < 40 → bAt 226 (40 + i) = true := by decide +kernel
theorem kz_226 : okZ (kPP 226) = true ∧ (kPP 226).length = 74 := by decide +kernel
theorem kd1_226 : KKm 226 := by
  refine KKm_S kz_226.1 (fun i hi => ?_)
  rw [kz_226.2] at hi
  by_cases c0 : i < 40
  · have := kb_226_0 (i - 0) (by omega); rw [show 0 + (i - 0) = i by omega] at this; exact this
  by_cases c1 : i < 80
  · have := kb_226_1 (i - 40) (by omega); rw [show 40 + (i - 40) = i by omega] at this; exact this
  omega
theorem kd1_227 : KKm 227 := KKm_S (by decide +kernel) (show ∀ i, i < 37 → bAt 227 i = true by decide +kernel)
theorem kb_229_0 : ∀ i, i < 40 → bAt 229 (0 + i) = true := by decide +kernel
theorem kb_229_1 : ∀ i, i < 40 → bAt 229 (40 + i) = true := by decide +kernel
theorem kz_229 : okZ (kPP 229) = true ∧ (kPP 229).length = 65 := by decide +kernel
theorem kd1_229 : KKm 229 := by
  refine KKm_S kz_229.1 (fun i hi => ?_)
  rw [kz_229.2] at hi
  by_cases c0 : i < 40
  · have := kb_229_0 (i - 0) (by omega); rw [show 0 + (i - 0) = i by omega] at this; exact this
  by_cases c1 : i < 80
  · have := kb_229_1 (i - 40) (by omega); rw [show 40 + (i - 40) = i by omega] at this; exact this
  omega
theorem kb_230_0 : ∀ i, i < 40 → bAt 230 (0 + i) = true := by decide +kernel
theorem kb_230_1 : ∀ i, i < 40 → bAt 230 (40 + i) = true := by decide +kernel
theorem kz_230 : okZ (kPP 230) = true ∧ (kPP 230).length = 44 := by decide +kernel
theorem kd1_230 : KKm 230 := by
  refine KKm_S kz_230.1 (fun i hi => ?_)
  rw [kz_230.2] at hi
  by_cases c0 : i < 40
  · have := kb_230_0 (i - 0) (by omega); rw [show 0 + (i - 0) = i by omega] at this; exact this
  by_cases c1 : i < 80
  · have := kb_230_1 (i - 40) (by omega); rw [show 40 + (i - 40) = i by omega] at this; exact this
  omega
theorem kd1_231 : KKm 231 := KKm_S (by decide +kernel) (show ∀ i, i < 30 → bAt 231 i = true by decide +kernel)
theorem kd1_232 : KKm 232 := KKm_S (by decide +kernel) (show ∀ i, i < 26 → bAt 232 i = true by decide +kernel)
theorem kd1_233 : KKm 233 := KKm_S (by decide +kernel) (show ∀ i, i < 25 → bAt 233 i = true by decide +kernel)
theorem kd1_234 : KKm 234 := KKm_S (by decide +kernel) (show ∀ i, i < 9 → bAt 234 i = true by decide +kernel)
theorem kb_235_0 : ∀ i, i < 40 → bAt 235 (0 + i) = true := by decide +kernel
theorem kb_235_1 : ∀ i, i < 40 → bAt 235 (40 + i) = true := by decide +kernel
theorem kz_235 : okZ (kPP 235) = true ∧ (kPP 235).length = 50 := by decide +kernel
theorem kd1_235 : KKm 235 := by
  refine KKm_S kz_235.1 (fun i hi => ?_)
  rw [kz_235.2] at hi
  by_cases c0 : i < 40
  · have := kb_235_0 (i - 0) (by omega); rw [show 0 + (i - 0) = i by omega] at this; exact this
  by_cases c1 : i < 80
  · have := kb_235_1 (i - 40) (by omega); rw [show 40 + (i - 40) = i by omega] at this; exact this
  omega
theorem kb_236_0 : ∀ i, i < 40 → bAt 236 (0 + i) = true := by decide +kernel
theorem kb_236_1 : ∀ i, i < 40 → bAt 236 (40 + i) = true := by decide +kernel
theorem kb_236_2 : ∀ i, i < 40 → bAt 236 (80 + i) = true := by decide +kernel
theorem kz_236 : okZ (kPP 236) = true ∧ (kPP 236).length = 90 := by decide +kernel
theorem kd1_236 : KKm 236 := by
  refine KKm_S kz_236.1 (fun i hi => ?_)
  rw [kz_236.2] at hi
  by_cases c0 : i < 40
  · have := kb_236_0 (i - 0) (by omega); rw [show 0 + (i - 0) = i by omega] at this; exact this
  by_cases c1 : i < 80
  · have := kb_236_1 (i - 40) (by omega); rw [show 40 + (i - 40) = i by omega] at this; exact this
  by_cases c2 : i < 120
  · have := kb_236_2 (i - 80) (by omega); rw [show 80 + (i - 80) = i by omega] at this; exact this
  omega
end KOKM
