/-! The checks of some tables of the class. -/
section KOKM
theorem kb_32_0 : ∀ i, i < 40 → bAt 32 (0 + i) = true := by decide +kernel
theorem kb_32_1 : ∀ i, i < 40 → bAt 32 (40 + i) = true := by decide +kernel
theorem kz_32 : okZ (kPP 32) = true ∧ (kPP 32).length = 47 := by decide +kernel
theorem kd1_32 : KKm 32 := by
  refine KKm_S kz_32.1 (fun i hi => ?_)
  rw [kz_32.2] at hi
  by_cases c0 : i < 40
  · have := kb_32_0 (i - 0) (by omega); rw [show 0 + (i - 0) = i by omega] at this; exact this
  by_cases c1 : i < 80
  · have := kb_32_1 (i - 40) (by omega); rw [show 40 + (i - 40) = i by omega] at this; exact this
  omega
theorem kb_33_0 : ∀ i, i < 40 → bAt 33 (0 + i) = true := by decide +kernel
theorem kb_33_1 : ∀ i, i < 40 → bAt 33 (40 + i) = true := by decide +kernel
theorem kz_33 : okZ (kPP 33) = true ∧ (kPP 33).length = 61 := by decide +kernel
theorem kd1_33 : KKm 33 := by
  refine KKm_S kz_33.1 (fun i hi => ?_)
  rw [kz_33.2] at hi
  by_cases c0 : i < 40
  · have := kb_33_0 (i - 0) (by omega); rw [show 0 + (i - 0) = i by omega] at this; exact this
  by_cases c1 : i < 80
  · have := kb_33_1 (i - 40) (by omega); rw [show 40 + (i - 40) = i by omega] at this; exact this
  omega
theorem kb_34_0 : ∀ i, i < 40 → bAt 34 (0 + i) = true := by decide +kernel
theorem kb_34_1 : ∀ i, i < 40 → bAt 34 (40 + i) = true := by decide +kernel
theorem kb_34_2 : ∀ i, i < 40 → bAt 34 (80 + i) = true := by decide +kernel
theorem kz_34 : okZ (kPP 34) = true ∧ (kPP 34).length = 96 := by decide +kernel
theorem kd1_34 : KKm 34 := by
  refine KKm_S kz_34.1 (fun i hi => ?_)
  rw [kz_34.2] at hi
  by_cases c0 : i < 40
  · have := kb_34_0 (i - 0) (by omega); rw [show 0 + (i - 0) = i by omega] at this; exact this
  by_cases c1 : i < 80
  · have := kb_34_1 (i - 40) (by omega); rw [show 40 + (i - 40) = i by omega] at this; exact this
  by_cases c2 : i < 120
  · have := kb_34_2 (i - 80) (by omega); rw [show 80 + (i - 80) = i by omega] at this; exact this
  omega
theorem kb_35_0 : ∀ i, i < 40 → bAt 35 (0 + i) = true := by decide +kernel
theorem kb_35_1 : ∀ i, i < 40 → bAt 35 (40 + i) = true := by decide +kernel
theorem kb_35_2 : ∀ i, i < 40 → bAt 35 (80 + i) = true := by decide +kernel
theorem kz_35 : okZ (kPP 35) = true ∧ (kPP 35).length = 101 := by decide +kernel
theorem kd1_35 : KKm 35 := by
  refine KKm_S kz_35.1 (fun i hi => ?_)
  rw [kz_35.2] at hi
  by_cases c0 : i < 40
  · have := kb_35_0 (i - 0) (by omega); rw [show 0 + (i - 0) = i by omega] at this; exact this
  by_cases c1 : i < 80
  · have := kb_35_1 (i - 40) (by omega); rw [show 40 + (i - 40) = i by omega] at this; exact this
  by_cases c2 : i < 120
  · have := kb_35_2 (i - 80) (by omega); rw [show 80 + (i - 80) = i by omega] at this; exact this
  omega
theorem kb_36_0 : ∀ i, i < 40 → bAt 36 (0 + i) = true := by decide +kernel
theorem kb_36_1 : ∀ i, i < 40 → bAt 36 (40 + i) = true := by decide +kernel
theorem kb_36_2 : ∀ i, i < 40 → bAt 36 (80 + i) = true := by decide +kernel
theorem kz_36 : okZ (kPP 36) = true ∧ (kPP 36).length = 91 := by decide +kernel
theorem kd1_36 : KKm 36 := by
  refine KKm_S kz_36.1 (fun i hi => ?_)
  rw [kz_36.2] at hi
  by_cases c0 : i < 40
  · have := kb_36_0 (i - 0) (by omega); rw [show 0 + (i - 0) = i by omega] at this; exact this
  by_cases c1 : i < 80
  · have := kb_36_1 (i - 40) (by omega); rw [show 40 + (i - 40) = i by omega] at this; exact this
  by_cases c2 : i < 120
  · have := kb_36_2 (i - 80) (by omega); rw [show 80 + (i - 80) = i by omega] at this; exact this
  omega
theorem kb_37_0 : ∀ i, i < 40 → bAt 37 (0 + i) = true := by decide +kernel
theorem kb_37_1 : ∀ i, i < 40 → bAt 37 (40 + i) = true := by decide +kernel
theorem kz_37 : okZ (kPP 37) = true ∧ (kPP 37).length = 61 := by decide +kernel
theorem kd1_37 : KKm 37 := by
  refine KKm_S kz_37.1 (fun i hi => ?_)
  rw [kz_37.2] at hi
  by_cases c0 : i < 40
  · have := kb_37_0 (i - 0) (by omega); rw [show 0 + (i - 0) = i by omega] at this; exact this
  by_cases c1 : i < 80
  · have := kb_37_1 (i - 40) (by omega); rw [show 40 + (i - 40) = i by omega] at this; exact this
  omega
theorem kb_38_0 : ∀ i, i < 40 → bAt 38 (0 + i) = true := by decide +kernel
theorem kb_38_1 : ∀ i, i < 40 → bAt 38 (40 + i) = true := by decide +kernel
theorem kz_38 : okZ (kPP 38) = true ∧ (kPP 38).length = 68 := by decide +kernel
theorem kd1_38 : KKm 38 := by
  refine KKm_S kz_38.1 (fun i hi => ?_)
  rw [kz_38.2] at hi
  by_cases c0 : i < 40
  · have := kb_38_0 (i - 0) (by omega); rw [show 0 + (i - 0) = i by omega] at this; exact this
  by_cases c1 : i < 80
  · have := kb_38_1 (i - 40) (by omega); rw [show 40 + (i - 40) = i by omega] at this; exact this
  omega
theorem kd1_40 : KKm 40 := KKm_S (by decide +kernel) (show ∀ i, i < 7 → bAt 40 i = true by decide +kernel)
theorem kb_41_0 : ∀ i, i < 40 → bAt 41 (0 + i) = true := by decide +kernel
theorem kb_41_1 : ∀ i, i < 40 → bAt 41 (40 + i) = true := by decide +kernel
theorem kz_41 : okZ (kPP 41) = true ∧ (kPP 41).length = 49 := by decide +kernel
theorem kd1_41 : KKm 41 := by
  refine KKm_S kz_41.1 (fun i hi => ?_)
  rw [kz_41.2] at hi
  by_cases c0 : i < 40
  · have := kb_41_0 (i - 0) (by omega); rw [show 0 + (i - 0) = i by omega] at this; exact this
  by_cases c1 : i < 80
  · have := kb_41_1 (i - 40) (by omega); rw [show 40 + (i - 40) = i by omega] at this; exact this
  omega
theorem kd1_42 : KKm 42 := KKm_S (by decide +kernel) (show ∀ i, i < 16 → bAt 42 i = true by decide +kernel)
theorem kd1_43 : KKm 43 := KKm_S (by decide +kernel) (show ∀ i, i < 33 → bAt 43 i = true by decide +kernel)
theorem kd1_44 : KKm 44 := KKm_S (by decide +kernel) (show ∀ i, i < 30 → bAt 44 i = true by decide +kernel)
theorem kd1_45 : KKm 45 := KKm_S (by decide +kernel) (show ∀ i, i < 25 → bAt 45 i = true by decide +kernel)
theorem kd1_46 : KKm 46 := KKm_S (by decide +kernel) (show ∀ i, i < 10 → bAt 46 i = true by decide +kernel)
theorem kd1_47 : KKm 47 := KKm_S (by decide +kernel) (show ∀ i, i < 19 → bAt 47 i = true by decide +kernel)
theorem kd1_48 : KKm 48 := KKm_S (by decide +kernel) (show ∀ i, i < 12 → bAt 48 i = true by decide +kernel)
theorem kd1_49 : KKm 49 := KKm_S (by decide +kernel) (show ∀ i, i < 16 → bAt 49 i = true by decide +kernel)
theorem kb_50_0 : ∀ i, i < 40 → bAt 50 (0 + i) = true := by decide +kernel
theorem kb_50_1 : ∀ i, i < 40 → bAt 50 (40 + i) = true := by decide +kernel
theorem kz_50 : okZ (kPP 50) = true ∧ (kPP 50).length = 50 := by decide +kernel
theorem kd1_50 : KKm 50 := by
  refine KKm_S kz_50.1 (fun i hi => ?_)
  rw [kz_50.2] at hi
  by_cases c0 : i < 40
  · have := kb_50_0 (i - 0) (by omega); rw [show 0 + (i - 0) = i by omega] at this; exact this
  by_cases c1 : i < 80
  · have := kb_50_1 (i - 40) (by omega); rw [show 40 + (i - 40) = i by omega] at this; exact this
  omega
theorem kd1_51 : KKm 51 := KKm_S (by decide +kernel) (show ∀ i, i < 31 → bAt 51 i = true by decide +kernel)
theorem kd1_52 : KKm 52 := KKm_S (by decide +kernel) (show ∀ i, i < 32 → bAt 52 i = true by decide +kernel)
theorem kd1_53 : KKm 53 := KKm_S (by decide +kernel) (show ∀ i, i < 20 → bAt 53 i = true by decide +kernel)
theorem kd1_54 : KKm 54 := KKm_S (by decide +kernel) (show ∀ i, i < 29 → bAt 54 i = true by decide +kernel)
theorem kd1_55 : KKm 55 := KKm_S (by decide +kernel) (show ∀ i, i < 30 → bAt 55 i = true by decide +kernel)
theorem kb_56_0 : ∀ i, i < 40 → bAt 56 (0 + i) = true := by decide +kernel
theorem kb_56_1 : ∀ i, i < 40 → bAt 56 (40 + i) = true := by decide +kernel
theorem kz_56 : okZ (kPP 56) = true ∧ (kPP 56).length = 65 := by decide +kernel
theorem kd1_56 : KKm 56 := by
  refine KKm_S kz_56.1 (fun i hi => ?_)
  rw [kz_56.2] at hi
  by_cases c0 : i < 40
  · have := kb_56_0 (i - 0) (by omega); rw [show 0 + (i - 0) = i by omega] at this; exact this
  by_cases c1 : i < 80
  · have := kb_56_1 (i - 40) (by omega); rw [show 40 + (i - 40) = i by omega] at this; exact this
  omega
theorem kd1_57 : KKm 57 := KKm_S (by decide +kernel) (show ∀ i, i < 30 → bAt 57 i = true by decide +kernel)
theorem kd1_58 : KKm 58 := KKm_S (by decide +kernel) (show ∀ i, i < 5 → bAt 58 i = true by decide +kernel)
theorem kd1_59 : KKm 59 := KKm_S (by decide +kernel) (show ∀ i, i < 5 → bAt 59 i = true by decide +kernel)
theorem kd1_60 : KKm 60 := KKm_S (by decide +kernel) (show ∀ i, i < 6 → bAt 60 i = true by decide +kernel)
theorem kd1_61 : KKm 61 := KKm_S (by decide +kernel) (show ∀ i, i < 5 → bAt 61 i = true by decide +kernel)
theorem kd1_63 : KKm 63 := KKm_S (by decide +kernel) (show ∀ i, i < 12 → bAt 63 i = true by decide +kernel)
theorem kd1_64 : KKm 64 := KKm_S (by decide +kernel) (show ∀ i, i < 15 → bAt 64 i = true by decide +kernel)
theorem kd1_65 : KKm 65 := KKm_S (by decide +kernel) (show ∀ i, i < 7 → bAt 65 i = true by decide +kernel)
theorem kd1_66 : KKm 66 := KKm_S (by decide +kernel) (show ∀ i, i < 28 → bAt 66 i = true by decide +kernel)
end KOKM
