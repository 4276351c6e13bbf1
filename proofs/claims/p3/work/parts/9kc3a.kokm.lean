/-! The checks of some tables of the class. -/
section KOKM
theorem kd1_1 : KKm 1 := KKm_S (by decide +kernel) (show ∀ i, i < 29 → bAt 1 i = true by decide +kernel)
theorem kd1_2 : KKm 2 := KKm_S (by decide +kernel) (show ∀ i, i < 15 → bAt 2 i = true by decide +kernel)
theorem kb_3_0 : ∀ i, i < 40 → bAt 3 (0 + i) = true := by decide +kernel
theorem kb_3_1 : ∀ i, i < 40 → bAt 3 (40 + i) = true := by decide +kernel
theorem kb_3_2 : ∀ i, i < 40 → bAt 3 (80 + i) = true := by decide +kernel
theorem kz_3 : okZ (kPP 3) = true ∧ (kPP 3).length = 112 := by decide +kernel
theorem kd1_3 : KKm 3 := by
  refine KKm_S kz_3.1 (fun i hi => ?_)
  rw [kz_3.2] at hi
  by_cases c0 : i < 40
  · have := kb_3_0 (i - 0) (by omega); rw [show 0 + (i - 0) = i by omega] at this; exact this
  by_cases c1 : i < 80
  · have := kb_3_1 (i - 40) (by omega); rw [show 40 + (i - 40) = i by omega] at this; exact this
  by_cases c2 : i < 120
  · have := kb_3_2 (i - 80) (by omega); rw [show 80 + (i - 80) = i by omega] at this; exact this
  omega
theorem kd1_4 : KKm 4 := KKm_S (by decide +kernel) (show ∀ i, i < 21 → bAt 4 i = true by decide +kernel)
theorem kd1_5 : KKm 5 := KKm_S (by decide +kernel) (show ∀ i, i < 13 → bAt 5 i = true by decide +kernel)
theorem kd1_6 : KKm 6 := KKm_S (by decide +kernel) (show ∀ i, i < 12 → bAt 6 i = true by decide +kernel)
theorem kd1_7 : KKm 7 := KKm_S (by decide +kernel) (show ∀ i, i < 22 → bAt 7 i = true by decide +kernel)
theorem kd1_8 : KKm 8 := KKm_S (by decide +kernel) (show ∀ i, i < 21 → bAt 8 i = true by decide +kernel)
theorem kb_9_0 : ∀ i, i < 40 → bAt 9 (0 + i) = true := by decide +kernel
theorem kb_9_1 : ∀ i, i < 40 → bAt 9 (40 + i) = true := by decide +kernel
theorem kz_9 : okZ (kPP 9) = true ∧ (kPP 9).length = 41 := by decide +kernel
theorem kd1_9 : KKm 9 := by
  refine KKm_S kz_9.1 (fun i hi => ?_)
  rw [kz_9.2] at hi
  by_cases c0 : i < 40
  · have := kb_9_0 (i - 0) (by omega); rw [show 0 + (i - 0) = i by omega] at this; exact this
  by_cases c1 : i < 80
  · have := kb_9_1 (i - 40) (by omega); rw [show 40 + (i - 40) = i by omega] at this; exact this
  omega
theorem kd1_10 : KKm 10 := KKm_S (by decide +kernel) (show ∀ i, i < 4 → bAt 10 i = true by decide +kernel)
theorem kd1_11 : KKm 11 := KKm_S (by decide +kernel) (show ∀ i, i < 8 → bAt 11 i = true by decide +kernel)
theorem kd1_12 : KKm 12 := KKm_S (by decide +kernel) (show ∀ i, i < 9 → bAt 12 i = true by decide +kernel)
theorem kb_13_0 : ∀ i, i < 40 → bAt 13 (0 + i) = true := by decide +kernel
theorem kb_13_1 : ∀ i, i < 40 → bAt 13 (40 + i) = true := by decide +kernel
theorem kb_13_2 : ∀ i, i < 40 → bAt 13 (80 + i) = true := by decide +kernel
theorem kz_13 : okZ (kPP 13) = true ∧ (kPP 13).length = 82 := by decide +kernel
theorem kd1_13 : KKm 13 := by
  refine KKm_S kz_13.1 (fun i hi => ?_)
  rw [kz_13.2] at hi
  by_cases c0 : i < 40
  · have := kb_13_0 (i - 0) (by omega); rw [show 0 + (i - 0) = i by omega] at this; exact this
  by_cases c1 : i < 80
  · have := kb_13_1 (i - 40) (by omega); rw [show 40 + (i - 40) = i by omega] at this; exact this
  by_cases c2 : i < 120
  · have := kb_13_2 (i - 80) (by omega); rw [show 80 + (i - 80) = i by omega] at this; exact this
  omega
theorem kb_14_0 : ∀ i, i < 40 → bAt 14 (0 + i) = true := by decide +kernel
theorem kb_14_1 : ∀ i, i < 40 → bAt 14 (40 + i) = true := by decide +kernel
theorem kz_14 : okZ (kPP 14) = true ∧ (kPP 14).length = 68 := by decide +kernel
theorem kd1_14 : KKm 14 := by
  refine KKm_S kz_14.1 (fun i hi => ?_)
  rw [kz_14.2] at hi
  by_cases c0 : i < 40
  · have := kb_14_0 (i - 0) (by omega); rw [show 0 + (i - 0) = i by omega] at this; exact this
  by_cases c1 : i < 80
  · have := kb_14_1 (i - 40) (by omega); rw [show 40 + (i - 40) = i by omega] at this; exact this
  omega
theorem kd1_15 : KKm 15 := KKm_S (by decide +kernel) (show ∀ i, i < 4 → bAt 15 i = true by decide +kernel)
theorem kd1_16 : KKm 16 := KKm_S (by decide +kernel) (show ∀ i, i < 16 → bAt 16 i = true by decide +kernel)
theorem kd1_17 : KKm 17 := KKm_S (by decide +kernel) (show ∀ i, i < 18 → bAt 17 i = true by decide +kernel)
theorem kd1_18 : KKm 18 := KKm_S (by decide +kernel) (show ∀ i, i < 3 → bAt 18 i = true by decide +kernel)
theorem kd1_19 : KKm 19 := KKm_S (by decide +kernel) (show ∀ i, i < 29 → bAt 19 i = true by decide +kernel)
theorem kd1_20 : KKm 20 := KKm_S (by decide +kernel) (show ∀ i, i < 14 → bAt 20 i = true by decide +kernel)
theorem kd1_21 : KKm 21 := KKm_S (by decide +kernel) (show ∀ i, i < 16 → bAt 21 i = true by decide +kernel)
theorem kd1_22 : KKm 22 := KKm_S (by decide +kernel) (show ∀ i, i < 35 → bAt 22 i = true by decide +kernel)
theorem kd1_23 : KKm 23 := KKm_S (by decide +kernel) (show ∀ i, i < 34 → bAt 23 i = true by decide +kernel)
theorem kb_24_0 : ∀ i, i < 40 → bAt 24 (0 + i) = true := by decide +kernel
theorem kb_24_1 : ∀ i, i < 40 → bAt 24 (40 + i) = true := by decide +kernel
theorem kz_24 : okZ (kPP 24) = true ∧ (kPP 24).length = 77 := by decide +kernel
theorem kd1_24 : KKm 24 := by
  refine KKm_S kz_24.1 (fun i hi => ?_)
  rw [kz_24.2] at hi
  by_cases c0 : i < 40
  · have := kb_24_0 (i - 0) (by omega); rw [show 0 + (i - 0) = i by omega] at this; exact this
  by_cases c1 : i < 80
  · have := kb_24_1 (i - 40) (by omega); rw [show 40 + (i - 40) = i by omega] at this; exact this
  omega
theorem kb_25_0 : ∀ i, i < 40 → bAt 25 (0 + i) = true := by decide +kernel
theorem kb_25_1 : ∀ i, i < 40 → bAt 25 (40 + i) = true := by decide +kernel
theorem kz_25 : okZ (kPP 25) = true ∧ (kPP 25).length = 47 := by decide +kernel
theorem kd1_25 : KKm 25 := by
  refine KKm_S kz_25.1 (fun i hi => ?_)
  rw [kz_25.2] at hi
  by_cases c0 : i < 40
  · have := kb_25_0 (i - 0) (by omega); rw [show 0 + (i - 0) = i by omega] at this; exact this
  by_cases c1 : i < 80
  · have := kb_25_1 (i - 40) (by omega); rw [show 40 + (i - 40) = i by omega] at this; exact this
  omega
theorem kd1_26 : KKm 26 := KKm_S (by decide +kernel) (show ∀ i, i < 30 → bAt 26 i = true by decide +kernel)
theorem kb_27_0 : ∀ i, i < 40 → bAt 27 (0 + i) = true := by decide +kernel
theorem kb_27_1 : ∀ i, i < 40 → bAt 27 (40 + i) = true := by decide +kernel
theorem kz_27 : okZ (kPP 27) = true ∧ (kPP 27).length = 66 := by decide +kernel
theorem kd1_27 : KKm 27 := by
  refine KKm_S kz_27.1 (fun i hi => ?_)
  rw [kz_27.2] at hi
  by_cases c0 : i < 40
  · have := kb_27_0 (i - 0) (by omega); rw [show 0 + (i - 0) = i by omega] at this; exact this
  by_cases c1 : i < 80
  · have := kb_27_1 (i - 40) (by omega); rw [show 40 + (i - 40) = i by omega] at this; exact this
  omega
theorem kd1_28 : KKm 28 := KKm_S (by decide +kernel) (show ∀ i, i < 30 → bAt 28 i = true by decide +kernel)
theorem kb_29_0 : ∀ i, i < 40 → bAt 29 (0 + i) = true := by decide +kernel
theorem kb_29_1 : ∀ i, i < 40 → bAt 29 (40 + i) = true := by decide +kernel
theorem kb_29_2 : ∀ i, i < 40 → bAt 29 (80 + i) = true := by decide +kernel
theorem kz_29 : okZ (kPP 29) = true ∧ (kPP 29).length = 95 := by decide +kernel
theorem kd1_29 : KKm 29 := by
  refine KKm_S kz_29.1 (fun i hi => ?_)
  rw [kz_29.2] at hi
  by_cases c0 : i < 40
  · have := kb_29_0 (i - 0) (by omega); rw [show 0 + (i - 0) = i by omega] at this; exact this
  by_cases c1 : i < 80
  · have := kb_29_1 (i - 40) (by omega); rw [show 40 + (i - 40) = i by omega] at this; exact this
  by_cases c2 : i < 120
  · have := kb_29_2 (i - 80) (by omega); rw [show 80 + (i - 80) = i by omega] at this; exact this
  omega
theorem kb_30_0 : ∀ i, i < 40 → bAt 30 (0 + i) = true := by decide +kernel
theorem kb_30_1 : ∀ i, i < 40 → bAt 30 (40 + i) = true := by decide +kernel
theorem kz_30 : okZ (kPP 30) = true ∧ (kPP 30).length = 64 := by decide +kernel
theorem kd1_30 : KKm 30 := by
  refine KKm_S kz_30.1 (fun i hi => ?_)
  rw [kz_30.2] at hi
  by_cases c0 : i < 40
  · have := kb_30_0 (i - 0) (by omega); rw [show 0 + (i - 0) = i by omega] at this; exact this
  by_cases c1 : i < 80
  · have := kb_30_1 (i - 40) (by omega); rw [show 40 + (i - 40) = i by omega] at this; exact this
  omega
theorem kb_31_0 : ∀ i, i < 40 → bAt 31 (0 + i) = true := by decide +kernel
theorem kb_31_1 : ∀ i, i < 40 → bAt 31 (40 + i) = true := by decide +kernel
theorem kz_31 : okZ (kPP 31) = true ∧ (kPP 31).length = 67 := by decide +kernel
theorem kd1_31 : KKm 31 := by
  refine KKm_S kz_31.1 (fun i hi => ?_)
  rw [kz_31.2] at hi
  by_cases c0 : i < 40
  · have := kb_31_0 (i - 0) (by omega); rw [show 0 + (i - 0) = i by omega] at this; exact this
  by_cases c1 : i < 80
  · have := kb_31_1 (i - 40) (by omega); rw [show 40 + (i - 40) = i by omega] at this; exact this
  omega
end KOKM
