/-! The checks of some tables of the class. -/
section KOKM
theorem kb_67_0 : ∀ i, i < 40 → bAt 67 (0 + i) = true := by decide +kernel
theorem kb_67_1 : ∀ i, i < 40 → bAt 67 (40 + i) = true := by decide +kernel
theorem kz_67 : okZ (kPP 67) = true ∧ (kPP 67).length = 41 := by decide +kernel
theorem kd1_67 : KKm 67 := by
  refine KKm_S kz_67.1 (fun i hi => ?_)
  rw [kz_67.2] at hi
  by_cases c0 : i < 40
  · have := kb_67_0 (i - 0) (by omega); rw [show 0 + (i - 0) = i by omega] at this; exact this
  by_cases c1 : i < 80
  · have := kb_67_1 (i - 40) (by omega); rw [show 40 + (i - 40) = i by omega] at this; exact this
  omega
theorem kd1_68 : KKm 68 := KKm_S (by decide +kernel) (show ∀ i, i < 18 → bAt 68 i = true by decide +kernel)
theorem kd1_69 : KKm 69 := KKm_S (by decide +kernel) (show ∀ i, i < 23 → bAt 69 i = true by decide +kernel)
theorem kb_70_0 : ∀ i, i < 40 → bAt 70 (0 + i) = true := by decide +kernel
theorem kb_70_1 : ∀ i, i < 40 → bAt 70 (40 + i) = true := by decide +kernel
theorem kz_70 : okZ (kPP 70) = true ∧ (kPP 70).length = 53 := by decide +kernel
theorem kd1_70 : KKm 70 := by
  refine KKm_S kz_70.1 (fun i hi => ?_)
  rw [kz_70.2] at hi
  by_cases c0 : i < 40
  · have := kb_70_0 (i - 0) (by omega); rw [show 0 + (i - 0) = i by omega] at this; exact this
  by_cases c1 : i < 80
  · have := kb_70_1 (i - 40) (by omega); rw [show 40 + (i - 40) = i by omega] at this; exact this
  omega
theorem kb_71_0 : ∀ i, i < 40 → bAt 71 (0 + i) = true := by decide +kernel
theorem kb_71_1 : ∀ i, i < 40 → bAt 71 (40 + i) = true := by decide +kernel
theorem kb_71_2 : ∀ i, i < 40 → bAt 71 (80 + i) = true := by decide +kernel
theorem kz_71 : okZ (kPP 71) = true ∧ (kPP 71).length = 82 := by decide +kernel
theorem kd1_71 : KKm 71 := by
  refine KKm_S kz_71.1 (fun i hi => ?_)
  rw [kz_71.2] at hi
  by_cases c0 : i < 40
  · have := kb_71_0 (i - 0) (by omega); rw [show 0 + (i - 0) = i by omega] at this; exact this
  by_cases c1 : i < 80
  · have := kb_71_1 (i - 40) (by omega); rw [show 40 + (i - 40) = i by omega] at this; exact this
  by_cases c2 : i < 120
  · have := kb_71_2 (i - 80) (by omega); rw [show 80 + (i - 80) = i by omega] at this; exact this
  omega
theorem kb_72_0 : ∀ i, i < 40 → bAt 72 (0 + i) = true := by decide +kernel
theorem kb_72_1 : ∀ i, i < 40 → bAt 72 (40 + i) = true := by decide +kernel
theorem kz_72 : okZ (kPP 72) = true ∧ (kPP 72).length = 80 := by decide +kernel
theorem kd1_72 : KKm 72 := by
  refine KKm_S kz_72.1 (fun i hi => ?_)
  rw [kz_72.2] at hi
  by_cases c0 : i < 40
  · have := kb_72_0 (i - 0) (by omega); rw [show 0 + (i - 0) = i by omega] at this; exact this
  by_cases c1 : i < 80
  · have := kb_72_1 (i - 40) (by omega); rw [show 40 + (i - 40) = i by omega] at this; exact this
  omega
theorem kd1_73 : KKm 73 := KKm_S (by decide +kernel) (show ∀ i, i < 26 → bAt 73 i = true by decide +kernel)
theorem kd1_75 : KKm 75 := KKm_S (by decide +kernel) (show ∀ i, i < 8 → bAt 75 i = true by decide +kernel)
theorem kb_76_0 : ∀ i, i < 40 → bAt 76 (0 + i) = true := by decide +kernel
theorem kb_76_1 : ∀ i, i < 40 → bAt 76 (40 + i) = true := by decide +kernel
theorem kb_76_2 : ∀ i, i < 40 → bAt 76 (80 + i) = true := by decide +kernel
theorem kz_76 : okZ (kPP 76) = true ∧ (kPP 76).length = 84 := by decide +kernel
theorem kd1_76 : KKm 76 := by
  refine KKm_S kz_76.1 (fun i hi => ?_)
  rw [kz_76.2] at hi
  by_cases c0 : i < 40
  · have := kb_76_0 (i - 0) (by omega); rw [show 0 + (i - 0) = i by omega] at this; exact this
  by_cases c1 : i < 80
  · have := kb_76_1 (i - 40) (by omega); rw [show 40 + (i - 40) = i by omega] at this; exact this
  by_cases c2 : i < 120
  · have := kb_76_2 (i - 80) (by omega); rw [show 80 + (i - 80) = i by omega] at this; exact this
  omega
theorem kd1_77 : KKm 77 := KKm_S (by decide +kernel) (show ∀ i, i < 40 → bAt 77 i = true by decide +kernel)
theorem kb_78_0 : ∀ i, i < 40 → bAt 78 (0 + i) = true := by decide +kernel
theorem kb_78_1 : ∀ i, i < 40 → bAt 78 (40 + i) = true := by decide +kernel
theorem kb_78_2 : ∀ i, i < 40 → bAt 78 (80 + i) = true := by decide +kernel
theorem kz_78 : okZ (kPP 78) = true ∧ (kPP 78).length = 102 := by decide +kernel
theorem kd1_78 : KKm 78 := by
  refine KKm_S kz_78.1 (fun i hi => ?_)
  rw [kz_78.2] at hi
  by_cases c0 : i < 40
  · have := kb_78_0 (i - 0) (by omega); rw [show 0 + (i - 0) = i by omega] at this; exact this
  by_cases c1 : i < 80
  · have := kb_78_1 (i - 40) (by omega); rw [show 40 + (i - 40) = i by omega] at this; exact this
  by_cases c2 : i < 120
  · have := kb_78_2 (i - 80) (by omega); rw [show 80 + (i - 80) = i by omega] at this; exact this
  omega
theorem kd1_79 : KKm 79 := KKm_S (by decide +kernel) (show ∀ i, i < 20 → bAt 79 i = true by decide +kernel)
theorem kd1_80 : KKm 80 := KKm_S (by decide +kernel) (show ∀ i, i < 26 → bAt 80 i = true by decide +kernel)
theorem kb_81_0 : ∀ i, i < 40 → bAt 81 (0 + i) = true := by decide +kernel
theorem kb_81_1 : ∀ i, i < 40 → bAt 81 (40 + i) = true := by decide +kernel
theorem kb_81_2 : ∀ i, i < 40 → bAt 81 (80 + i) = true := by decide +kernel
theorem kz_81 : okZ (kPP 81) = true ∧ (kPP 81).length = 82 := by decide +kernel
theorem kd1_81 : KKm 81 := by
  refine KKm_S kz_81.1 (fun i hi => ?_)
  rw [kz_81.2] at hi
  by_cases c0 : i < 40
  · have := kb_81_0 (i - 0) (by omega); rw [show 0 + (i - 0) = i by omega] at this; exact this
  by_cases c1 : i < 80
  · have := kb_81_1 (i - 40) (by omega); rw [show 40 + (i - 40) = i by omega] at this; exact this
  by_cases c2 : i < 120
  · have := kb_81_2 (i - 80) (by omega); rw [show 80 + (i - 80) = i by omega] at this; exact this
  omega
theorem kb_82_0 : ∀ i, i < 40 → bAt 82 (0 + i) = true := by decide +kernel
theorem kb_82_1 : ∀ i, i < 40 → bAt 82 (40 + i) = true := by decide +kernel
theorem kz_82 : okZ (kPP 82) = true ∧ (kPP 82).length = 41 := by decide +kernel
theorem kd1_82 : KKm 82 := by
  refine KKm_S kz_82.1 (fun i hi => ?_)
  rw [kz_82.2] at hi
  by_cases c0 : i < 40
  · have := kb_82_0 (i - 0) (by omega); rw [show 0 + (i - 0) = i by omega] at this; exact this
  by_cases c1 : i < 80
  · have := kb_82_1 (i - 40) (by omega); rw [show 40 + (i - 40) = i by omega] at this; exact this
  omega
theorem kd1_83 : KKm 83 := KKm_S (by decide +kernel) (show ∀ i, i < 30 → bAt 83 i = true by decide +kernel)
theorem kb_84_0 : ∀ i, i < 40 → bAt 84 (0 + i) = true := by decide +kernel
theorem kb_84_1 : ∀ i, i < 40 → bAt 84 (40 + i) = true := by decide +kernel
theorem kb_84_2 : ∀ i, i < 40 → bAt 84 (80 + i) = true := by decide +kernel
theorem kb_84_3 : ∀ i, i < 40 → bAt 84 (120 + i) = true := by decide +kernel
theorem kz_84 : okZ (kPP 84) = true ∧ (kPP 84).length = 135 := by decide +kernel
theorem kd1_84 : KKm 84 := by
  refine KKm_S kz_84.1 (fun i hi => ?_)
  rw [kz_84.2] at hi
  by_cases c0 : i < 40
  · have := kb_84_0 (i - 0) (by omega); rw [show 0 + (i - 0) = i by omega] at this; exact this
  by_cases c1 : i < 80
  · have := kb_84_1 (i - 40) (by omega); rw [show 40 + (i - 40) = i by omega] at this; exact this
  by_cases c2 : i < 120
  · have := kb_84_2 (i - 80) (by omega); rw [show 80 + (i - 80) = i by omega] at this; exact this
  by_cases c3 : i < 160
  · have := kb_84_3 (i - 120) (by omega); rw [show 120 + (i - 120) = i by omega] at this; exact this
  omega
theorem kb_85_0 : ∀ i, i < 40 → bAt 85 (0 + i) = true := by decide +kernel
theorem kb_85_1 : ∀ i, i < 40 → bAt 85 (40 + i) = true := by decide +kernel
theorem kz_85 : okZ (kPP 85) = true ∧ (kPP 85).length = 49 := by decide +kernel
theorem kd1_85 : KKm 85 := by
  refine KKm_S kz_85.1 (fun i hi => ?_)
  rw [kz_85.2] at hi
  by_cases c0 : i < 40
  · have := kb_85_0 (i - 0) (by omega); rw [show 0 + (i - 0) = i by omega] at this; exact this
  by_cases c1 : i < 80
  · have := kb_85_1 (i - 40) (by omega); rw [show 40 + (i - 40) = i by omega] at this; exact this
  omega
theorem kb_86_0 : ∀ i, i < 40 → bAt 86 (0 + i) = true := by decide +kernel
theorem kb_86_1 : ∀ i, i < 40 → bAt 86 (40 + i) = true := by decide +kernel
theorem kb_86_2 : ∀ i, i < 40 → bAt 86 (80 + i) = true := by decide +kernel
theorem kz_86 : okZ (kPP 86) = true ∧ (kPP 86).length = 99 := by decide +kernel
theorem kd1_86 : KKm 86 := by
  refine KKm_S kz_86.1 (fun i hi => ?_)
  rw [kz_86.2] at hi
  by_cases c0 : i < 40
  · have := kb_86_0 (i - 0) (by omega); rw [show 0 + (i - 0) = i by omega] at this; exact this
  by_cases c1 : i < 80
  · have := kb_86_1 (i - 40) (by omega); rw [show 40 + (i - 40) = i by omega] at this; exact this
  by_cases c2 : i < 120
  · have := kb_86_2 (i - 80) (by omega); rw [show 80 + (i - 80) = i by omega] at this; exact this
  omega
theorem kd1_87 : KKm 87 := KKm_S (by decide +kernel) (show ∀ i, i < 16 → bAt 87 i = true by decide +kernel)
theorem kd1_88 : KKm 88 := KKm_S (by decide +kernel) (show ∀ i, i < 9 → bAt 88 i = true by decide +kernel)
theorem kd1_89 : KKm 89 := KKm_S (by decide +kernel) (show ∀ i, i < 32 → bAt 89 i = true by decide +kernel)
theorem kb_90_0 : ∀ i, i < 40 → bAt 90 (0 + i) = true := by decide +kernel
theorem kb_90_1 : ∀ i, i < 40 → bAt 90 (40 + i) = true := by decide +kernel
theorem kz_90 : okZ (kPP 90) = true ∧ (kPP 90).length = 41 := by decide +kernel
theorem kd1_90 : KKm 90 := by
  refine KKm_S kz_90.1 (fun i hi => ?_)
  rw [kz_90.2] at hi
  by_cases c0 : i < 40
  · have := kb_90_0 (i - 0) (by omega); rw [show 0 + (i - 0) = i by omega] at this; exact this
  by_cases c1 : i < 80
  · have := kb_90_1 (i - 40) (by omega); rw [show 40 + (i - 40) = i by omega] at this; exact this
  omega
end KOKM
