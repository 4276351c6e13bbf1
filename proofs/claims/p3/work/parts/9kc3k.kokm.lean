/-! The checks of some tables of the class. -/
section KOKM
theorem kb_256_0 : ∀ i, i < 40 → bAt 256 (0 + i) = true := by decide +kernel
theorem kb_256_1 : ∀ i, i < 40 → bAt 256 (40 + i) = true := by decide +kernel
theorem kz_256 : okZ (kPP 256) = true ∧ (kPP 256).length = 50 := by decide +kernel
theorem kd1_256 : KKm 256 := by
  refine KKm_S kz_256.1 (fun i hi => ?_)
  rw [kz_256.2] at hi
  by_cases c0 : i < 40
  · have := kb_256_0 (i - 0) (by omega); rw [show 0 + (i - 0) = i by omega] at this; exact this
  by_cases c1 : i < 80
  · have := kb_256_1 (i - 40) (by omega); rw [show 40 + (i - 40) = i by omega] at this; exact this
  omega
theorem kb_257_0 : ∀ i, i < 40 → bAt 257 (0 + i) = true := by decide +kernel
theorem kb_257_1 : ∀ i, i < 40 → bAt 257 (40 + i) = true := by decide +kernel
theorem kb_257_2 : ∀ i, i < 40 → bAt 257 (80 + i) = true := by decide +kernel
theorem kz_257 : okZ (kPP 257) = true ∧ (kPP 257).length = 91 := by decide +kernel
theorem kd1_257 : KKm 257 := by
  refine KKm_S kz_257.1 (fun i hi => ?_)
  rw [kz_257.2] at hi
  by_cases c0 : i < 40
  · have := kb_257_0 (i - 0) (by omega); rw [show 0 + (i - 0) = i by omega] at this; exact this
  by_cases c1 : i < 80
  · have := kb_257_1 (i - 40) (by omega); rw [show 40 + (i - 40) = i by omega] at this; exact this
  by_cases c2 : i < 120
  · have := kb_257_2 (i - 80) (by omega); rw [show 80 + (i - 80) = i by omega] at this; exact this
  omega
theorem kd1_300 : KKm 300 := KKm_S (by decide +kernel) (show ∀ i, i < 7 → bAt 300 i = true by decide +kernel)
theorem kd1_301 : KKm 301 := KKm_S (by decide +kernel) (show ∀ i, i < 7 → bAt 301 i = true by decide +kernel)
theorem kd1_302 : KKm 302 := KKm_S (by decide +kernel) (show ∀ i, i < 8 → bAt 302 i = true by decide +kernel)
theorem kd1_303 : KKm 303 := KKm_S (by decide +kernel) (show ∀ i, i < 8 → bAt 303 i = true by decide +kernel)
theorem kd1_304 : KKm 304 := KKm_S (by decide +kernel) (show ∀ i, i < 7 → bAt 304 i = true by decide +kernel)
theorem kd1_305 : KKm 305 := KKm_S (by decide +kernel) (show ∀ i, i < 13 → bAt 305 i = true by decide +kernel)
theorem kd1_306 : KKm 306 := KKm_S (by decide +kernel) (show ∀ i, i < 7 → bAt 306 i = true by decide +kernel)
theorem kd1_307 : KKm 307 := KKm_S (by decide +kernel) (show ∀ i, i < 9 → bAt 307 i = true by decide +kernel)
theorem kd1_308 : KKm 308 := KKm_S (by decide +kernel) (show ∀ i, i < 11 → bAt 308 i = true by decide +kernel)
theorem kd1_309 : KKm 309 := KKm_S (by decide +kernel) (show ∀ i, i < 37 → bAt 309 i = true by decide +kernel)
theorem kd1_310 : KKm 310 := KKm_S (by decide +kernel) (show ∀ i, i < 15 → bAt 310 i = true by decide +kernel)
theorem kd1_311 : KKm 311 := KKm_S (by decide +kernel) (show ∀ i, i < 17 → bAt 311 i = true by decide +kernel)
theorem kd1_312 : KKm 312 := KKm_S (by decide +kernel) (show ∀ i, i < 22 → bAt 312 i = true by decide +kernel)
theorem kd1_313 : KKm 313 := KKm_S (by decide +kernel) (show ∀ i, i < 22 → bAt 313 i = true by decide +kernel)
theorem kb_314_0 : ∀ i, i < 40 → bAt 314 (0 + i) = true := by decide +kernel
theorem kb_314_1 : ∀ i, i < 40 → bAt 314 (40 + i) = true := by decide +kernel
theorem kz_314 : okZ (kPP 314) = true ∧ (kPP 314).length = 42 := by decide +kernel
theorem kd1_314 : KKm 314 := by
  refine KKm_S kz_314.1 (fun i hi => ?_)
  rw [kz_314.2] at hi
  by_cases c0 : i < 40
  · have := kb_314_0 (i - 0) (by omega); rw [show 0 + (i - 0) = i by omega] at this; exact this
  by_cases c1 : i < 80
  · have := kb_314_1 (i - 40) (by omega); rw [show 40 + (i - 40) = i by omega] at this; exact this
  omega
end KOKM
