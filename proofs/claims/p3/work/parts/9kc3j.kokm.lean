/-! The checks of some tables of the class. -/
section KOKM
theorem kd1_237 : KKm 237 := KKm_S (by decide +kernel) (show ∀ i, i < 20 → bAt 237 i = true by decide +kernel)
theorem kb_238_0 : ∀ i, i < 40 → bAt 238 (0 + i) = true := by decide +kernel
theorem kb_238_1 : ∀ i, i < 40 → bAt 238 (40 + i) = true := by decide +kernel
theorem kz_238 : okZ (kPP 238) = true ∧ (kPP 238).length = 63 := by decide +kernel
theorem kd1_238 : KKm 238 := by
  refine KKm_S kz_238.1 (fun i hi => ?_)
  rw [kz_238.2] at hi
  by_cases c0 : i < 40
  · have := kb_238_0 (i - 0) (by omega); rw [show 0 + (i - 0) = i by omega] at this; exact this
  by_cases c1 : i < 80
  · have := kb_238_1 (i - 40) (by omega); rw [show 40 + (i - 40) = i by omega] at this; exact this
  omega
theorem kb_239_0 : ∀ i, i < 40 → bAt 239 (0 + i) = true := by decide +kernel
theorem kb_239_1 : ∀ i, i < 40 → bAt 239 (40 + i) = true := by decide +kernel
theorem kb_239_2 : ∀ i, i < 40 → bAt 239 (80 + i) = true := by decide +kernel
theorem kz_239 : okZ (kPP 239) = true ∧ (kPP 239).length = 119 := by decide +kernel
theorem kd1_239 : KKm 239 := by
  refine KKm_S kz_239.1 (fun i hi => ?_)
  rw [kz_239.2] at hi
  by_cases c0 : i < 40
  · have := kb_239_0 (i - 0) (by omega); rw [show 0 + (i - 0) = i by omega] at this; exact this
  by_cases c1 : i < 80
  · have := kb_239_1 (i - 40) (by omega); rw [show 40 + (i - 40) = i by omega] at this; exact this
  by_cases c2 : i < 120
  · have := kb_239_2 (i - 80) (by omega); rw [show 80 + (i - 80) = i by omega] at this; exact this
  omega
theorem kd1_240 : KKm 240 := KKm_S (by decide +kernel) (show ∀ i, i < 33 → bAt 240 i = true by decide +kernel)
theorem kb_241_0 : ∀ i, i < 40 → bAt 241 (0 + i) = true := by decide +kernel
theorem kb_241_1 : ∀ i, i < 40 → bAt 241 (40 + i) = true := by decide +kernel
theorem kb_241_2 : ∀ i, i < 40 → bAt 241 (80 + i) = true := by decide +kernel
theorem kz_241 : okZ (kPP 241) = true ∧ (kPP 241).length = 110 := by decide +kernel
theorem kd1_241 : KKm 241 := by
  refine KKm_S kz_241.1 (fun i hi => ?_)
  rw [kz_241.2] at hi
  by_cases c0 : i < 40
  · have := kb_241_0 (i - 0) (by omega); rw [show 0 + (i - 0) = i by omega] at this; exact this
  by_cases c1 : i < 80
  · have := kb_241_1 (i - 40) (by omega); rw [show 40 + (i - 40) = i by omega] at this; exact this
  by_cases c2 : i < 120
  · have := kb_241_2 (i - 80) (by omega); rw [show 80 + (i - 80) = i by omega] at this; exact this
  omega
theorem kb_242_0 : ∀ i, i < 40 → bAt 242 (0 + i) = true := by decide +kernel
theorem kb_242_1 : ∀ i, i < 40 → bAt 242 (40 + i) = true := by decide +kernel
theorem kz_242 : okZ (kPP 242) = true ∧ (kPP 242).length = 61 := by decide +kernel
theorem kd1_242 : KKm 242 := by
  refine KKm_S kz_242.1 (fun i hi => ?_)
  rw [kz_242.2] at hi
  by_cases c0 : i < 40
  · have := kb_242_0 (i - 0) (by omega); rw [show 0 + (i - 0) = i by omega] at this; exact this
  by_cases c1 : i < 80
  · have := kb_242_1 (i - 40) (by omega); rw [show 40 + (i - 40) = i by omega] at this; exact this
  omega
theorem kd1_243 : KKm 243 := KKm_S (by decide +kernel) (show ∀ i, i < 27 → bAt 243 i = true by decide +kernel)
theorem kb_244_0 : ∀ i, i < 40 → bAt 244 (0 + i) = true := by decide +kernel
theorem kb_244_1 : ∀ i, i < 40 → bAt 244 (40 + i) = true := by decide +kernel
theorem kz_244 : okZ (kPP 244) = true ∧ (kPP 244).length = 42 := by decide +kernel
theorem kd1_244 : KKm 244 := by
  refine KKm_S kz_244.1 (fun i hi => ?_)
  rw [kz_244.2] at hi
  by_cases c0 : i < 40
  · have := kb_244_0 (i - 0) (by omega); rw [show 0 + (i - 0) = i by omega] at this; exact this
  by_cases c1 : i < 80
  · have := kb_244_1 (i - 40) (by omega); rw [show 40 + (i - 40) = i by omega] at this; exact this
  omega
theorem kb_245_0 : ∀ i, i < 40 → bAt 245 (0 + i) = true := by decide +kernel
theorem kb_245_1 : ∀ i, i < 40 → bAt 245 (40 + i) = true := by decide +kernel
theorem kz_245 : okZ (kPP 245) = true ∧ (kPP 245).length = 61 := by decide +kernel
theorem kd1_245 : KKm 245 := by
  refine KKm_S kz_245.1 (fun i hi => ?_)
  rw [kz_245.2] at hi
  by_cases c0 : i < 40
  · have := kb_245_0 (i - 0) (by omega); rw [show 0 + (i - 0) = i by omega] at this; exact this
  by_cases c1 : i < 80
  · have := kb_245_1 (i - 40) (by omega); rw [show 40 + (i - 40) = i by omega] at this; exact this
  omega
theorem kb_246_0 : ∀ i, i < 40 → bAt 246 (0 + i) = true := by decide +kernel
theorem kb_246_1 : ∀ i, i < 40 → bAt 246 (40 + i) = true := by decide +kernel
theorem kz_246 : okZ (kPP 246) = true ∧ (kPP 246).length = 51 := by decide +kernel
theorem kd1_246 : KKm 246 := by
  refine KKm_S kz_246.1 (fun i hi => ?_)
  rw [kz_246.2] at hi
  by_cases c0 : i < 40
  · have := kb_246_0 (i - 0) (by omega); rw [show 0 + (i - 0) = i by omega] at this; exact this
  by_cases c1 : i < 80
  · have := kb_246_1 (i - 40) (by omega); rw [show 40 + (i - 40) = i by omega] at this; exact this
  omega
theorem kb_247_0 : ∀ i, i < 40 → bAt 247 (0 + i) = true := by decide +kernel
theorem kb_247_1 : ∀ i, i < 40 → bAt 247 (40 + i) = true := by decide +kernel
theorem kb_247_2 : ∀ i, i < 40 → bAt 247 (80 + i) = true := by decide +kernel
theorem kz_247 : okZ (kPP 247) = true ∧ (kPP 247).length = 86 := by decide +kernel
theorem kd1_247 : KKm 247 := by
  refine KKm_S kz_247.1 (fun i hi => ?_)
  rw [kz_247.2] at hi
  by_cases c0 : i < 40
  · have := kb_247_0 (i - 0) (by omega); rw [show 0 + (i - 0) = i by omega] at this; exact this
  by_cases c1 : i < 80
  · have := kb_247_1 (i - 40) (by omega); rw [show 40 + (i - 40) = i by omega] at this; exact this
  by_cases c2 : i < 120
  · have := kb_247_2 (i - 80) (by omega); rw [show 80 + (i - 80) = i by omega] at this; exact this
  omega
theorem kb_248_0 : ∀ i, i < 40 → bAt 248 (0 + i) = true := by decide +kernel
theorem kb_248_1 : ∀ i, i < 40 → bAt 248 (40 + i) = true := by decide +kernel
theorem kz_248 : okZ (kPP 248) = true ∧ (kPP 248).length = 79 := by decide +kernel
theorem kd1_248 : KKm 248 := by
  refine KKm_S kz_248.1 (fun i hi => ?_)
  rw [kz_248.2] at hi
  by_cases c0 : i < 40
  · have := kb_248_0 (i - 0) (by omega); rw [show 0 + (i - 0) = i by omega] at this; exact this
  by_cases c1 : i < 80
  · have := kb_248_1 (i - 40) (by omega); rw [show 40 + (i - 40) = i by omega] at this; exact this
  omega
theorem kd1_249 : KKm 249 := KKm_S (by decide +kernel) (show ∀ i, i < 16 → bAt 249 i = true by decide +kernel)
theorem kb_250_0 : ∀ i, i < 40 → bAt 250 (0 + i) = true := by decide +kernel
theorem kb_250_1 : ∀ i, i < 40 → bAt 250 (40 + i) = true := by decide +kernel
theorem kz_250 : okZ (kPP 250) = true ∧ (kPP 250).length = 70 := by decide +kernel
theorem kd1_250 : KKm 250 := by
  refine KKm_S kz_250.1 (fun i hi => ?_)
  rw [kz_250.2] at hi
  by_cases c0 : i < 40
  · have := kb_250_0 (i - 0) (by omega); rw [show 0 + (i - 0) = i by omega] at this; exact this
  by_cases c1 : i < 80
  · have := kb_250_1 (i - 40) (by omega); rw [show 40 + (i - 40) = i by omega] at this; exact this
  omega
theorem kb_251_0 : ∀ i, i < 40 → bAt 251 (0 + i) = true := by decide +kernel
theorem kb_251_1 : ∀ i, i < 40 → bAt 251 (40 + i) = true := by decide +kernel
theorem kz_251 : okZ (kPP 251) = true ∧ (kPP 251).length = 55 := by decide +kernel
theorem kd1_251 : KKm 251 := by
  refine KKm_S kz_251.1 (fun i hi => ?_)
  rw [kz_251.2] at hi
  by_cases c0 : i < 40
  · have := kb_251_0 (i - 0) (by omega); rw [show 0 + (i - 0) = i by omega] at this; exact this
  by_cases c1 : i < 80
  · have := kb_251_1 (i - 40) (by omega); rw [show 40 + (i - 40) = i by omega] at this; exact this
  omega
theorem kb_252_0 : ∀ i, i < 40 → bAt 252 (0 + i) = true := by decide +kernel
theorem kb_252_1 : ∀ i, i < 40 → bAt 252 (40 + i) = true := by decide +kernel
theorem kb_252_2 : ∀ i, i < 40 → bAt 252 (80 + i) = true := by decide +kernel
theorem kb_252_3 : ∀ i, i < 40 → bAt 252 (120 + i) = true := by decide +kernel
theorem kz_252 : okZ (kPP 252) = true ∧ (kPP 252).length = 124 := by decide +kernel
theorem kd1_252 : KKm 252 := by
  refine KKm_S kz_252.1 (fun i hi => ?_)
  rw [kz_252.2] at hi
  by_cases c0 : i < 40
  · have := kb_252_0 (i - 0) (by omega); rw [show 0 + (i - 0) = i by omega] at this; exact this
  by_cases c1 : i < 80
  · have := kb_252_1 (i - 40) (by omega); rw [show 40 + (i - 40) = i by omega] at this; exact this
  by_cases c2 : i < 120
  · have := kb_252_2 (i - 80) (by omega); rw [show 80 + (i - 80) = i by omega] at this; exact this
  by_cases c3 : i < 160
  · have := kb_252_3 (i - 120) (by omega); rw [show 120 + (i - 120) = i by omega] at this; exact this
  omega
theorem kd1_253 : KKm 253 := KKm_S (by decide +kernel) (show ∀ i, i < 38 → bAt 253 i = true by decide +kernel)
theorem kd1_254 : KKm 254 := KKm_S (by decide +kernel) (show ∀ i, i < 29 → bAt 254 i = true by decide +kernel)
theorem kb_255_0 : ∀ i, i < 40 → bAt 255 (0 + i) = true := by decide +kernel
theorem kb_255_1 : ∀ i, i < 40 → bAt 255 (40 + i) = true := by decide +kernel
theorem kz_255 : okZ (kPP 255) = true ∧ (kPP 255).length = 55 := by decide +kernel
theorem kd1_255 : KKm 255 := by
  refine KKm_S kz_255.1 (fun i hi => ?_)
  rw [kz_255.2] at hi
  by_cases c0 : i < 40
  · have := kb_255_0 (i - 0) (by omega); rw [show 0 + (i - 0) = i by omega] at this; exact this
  by_cases c1 : i < 80
  · have := kb_255_1 (i - 40) (by omega); rw [show 40 + (i - 40) = i by omega] at this; exact this
  omega
end KOKM
