/-! The checks of some tables of the class. -/
section KOKM
theorem kb_91_0 : ∀ i, i < 40 → bAt 91 (0 + i) = true := by decide +kernel
theorem kb_91_1 : ∀ i, i < 40 → bAt 91 (40 + i) = true := by decide +kernel
theorem kz_91 : okZ (kPP 91) = true ∧ (kPP 91).length = 55 := by decide +kernel
theorem kd1_91 : KKm 91 := by
  refine KKm_S kz_91.1 (fun i hi => ?_)
  rw [kz_91.2] at hi
  by_cases c0 : i < 40
  · have := kb_91_0 (i - 0) (by omega); rw [show 0 + (i - 0) = i by omega] at this; exact this
  by_cases c1 : i < 80
  · have := kb_91_1 (i - 40) (by omega); rw [show 40 + (i - 40) = i by omega] at this; exact this
  omega
theorem kd1_93 : KKm 93 := KKm_S (by decide +kernel) (show ∀ i, i < 35 → bAt 93 i = true by decide +kernel)
theorem kb_94_0 : ∀ i, i < 40 → bAt 94 (0 + i) = true := by decide +kernel
theorem kb_94_1 : ∀ i, i < 40 → bAt 94 (40 + i) = true := by decide +kernel
theorem kb_94_2 : ∀ i, i < 40 → bAt 94 (80 + i) = true := by decide +kernel
theorem kb_94_3 : ∀ i, i < 40 → bAt 94 (120 + i) = true := by decide +kernel
theorem kz_94 : okZ (kPP 94) = true ∧ (kPP 94).length = 136 := by decide +kernel
theorem kd1_94 : KKm 94 := by
  refine KKm_S kz_94.1 (fun i hi => ?_)
  rw [kz_94.2] at hi
  by_cases c0 : i < 40
  · have := kb_94_0 (i - 0) (by omega); rw [show 0 + (i - 0) = i by omega] at this; exact this
  by_cases c1 : i < 80
  · have := kb_94_1 (i - 40) (by omega); rw [show 40 + (i - 40) = i by omega] at this; exact this
  by_cases c2 : i < 120
  · have := kb_94_2 (i - 80) (by omega); rw [show 80 + (i - 80) = i by omega] at this; exact this
  by_cases c3 : i < 160
  · have := kb_94_3 (i - 120) (by omega); rw [show 120 + (i - 120) = i by omega] at this; exact this
  omega
theorem kb_95_0 : ∀ i, i < 40 → bAt 95 (0 + i) = true := by decide +kernel
theorem kb_95_1 : ∀ i, i < 40 → bAt 95 (40 + i) = true := by decide +kernel
theorem kb_95_2 : ∀ i, i < 40 → bAt 95 (80 + i) = true := by decide +kernel
theorem kb_95_3 : ∀ i, i < 40 → bAt 95 (120 + i) = true := by decide +kernel
theorem kz_95 : okZ (kPP 95) = true ∧ (kPP 95).length = 130 := by decide +kernel
theorem kd1_95 : KKm 95 := by
  refine KKm_S kz_95.1 (fun i hi => ?_)
  rw [kz_95.2] at hi
  by_cases c0 : i < 40
  · have := kb_95_0 (i - 0) (by omega); rw [show 0 + (i - 0) = i by omega] at this; exact this
  by_cases c1 : i < 80
  · have := kb_95_1 (i - 40) (by omega); rw [show 40 + (i - 40) = i by omega] at this; exact this
  by_cases c2 : i < 120
  · have := kb_95_2 (i - 80) (by omega); rw [show 80 + (i - 80) = i by omega] at this; exact this
  by_cases c3 : i < 160
  · have := kb_95_3 (i - 120) (by omega); rw [show 120 + (i - 120) = i by omega] at this; exact this
  omega
theorem kb_96_0 : ∀ i, i < 40 → bAt 96 (0 + i) = true := by decide +kernel
theorem kb_96_1 : ∀ i, i < 40 → bAt 96 (40 + i) = true := by decide +kernel
theorem kb_96_2 : ∀ i, i < 40 → bAt 96 (80 + i) = true := by decide +kernel
theorem kz_96 : okZ (kPP 96) = true ∧ (kPP 96).length = 104 := by decide +kernel
theorem kd1_96 : KKm 96 := by
  refine KKm_S kz_96.1 (fun i hi => ?_)
  rw [kz_96.2] at hi
  by_cases c0 : i < 40
  · have := kb_96_0 (i - 0) (by omega); rw [show 0 + (i - 0) = i by omega] at this; exact this
  by_cases c1 : i < 80
  · have := kb_96_1 (i - 40) (by omega); rw [show 40 + (i - 40) = i by omega] at this; exact this
  by_cases c2 : i < 120
  · have := kb_96_2 (i - 80) (by omega); rw [show 80 + (i - 80) = i by omega] at this; exact this
  omega
theorem kd1_97 : KKm 97 := KKm_S (by decide +kernel) (show ∀ i, i < 22 → bAt 97 i = true by decide +kernel)
theorem kd1_98 : KKm 98 := KKm_S (by decide +kernel) (show ∀ i, i < 4 → bAt 98 i = true by decide +kernel)
theorem kd1_99 : KKm 99 := KKm_S (by decide +kernel) (show ∀ i, i < 13 → bAt 99 i = true by decide +kernel)
theorem kd1_100 : KKm 100 := KKm_S (by decide +kernel) (show ∀ i, i < 6 → bAt 100 i = true by decide +kernel)
theorem kd1_101 : KKm 101 := KKm_S (by decide +kernel) (show ∀ i, i < 13 → bAt 101 i = true by decide +kernel)
theorem kd1_102 : KKm 102 := KKm_S (by decide +kernel) (show ∀ i, i < 13 → bAt 102 i = true by decide +kernel)
theorem kd1_103 : KKm 103 := KKm_S (by decide +kernel) (show ∀ i, i < 28 → bAt 103 i = true by decide +kernel)
theorem kd1_104 : KKm 104 := KKm_S (by decide +kernel) (show ∀ i, i < 19 → bAt 104 i = true by decide +kernel)
theorem kd1_105 : KKm 105 := KKm_S (by decide +kernel) (show ∀ i, i < 23 → bAt 105 i = true by decide +kernel)
theorem kd1_106 : KKm 106 := KKm_S (by decide +kernel) (show ∀ i, i < 26 → bAt 106 i = true by decide +kernel)
theorem kd1_107 : KKm 107 := KKm_S (by decide +kernel) (show ∀ i, i < 16 → bAt 107 i = true by decide +kernel)
theorem kb_108_0 : ∀ i, i < 40 → bAt 108 (0 + i) = true := by decide +kernel
theorem kb_108_1 : ∀ i, i < 40 → bAt 108 (40 + i) = true := by decide +kernel
theorem kz_108 : okZ (kPP 108) = true ∧ (kPP 108).length = 53 := by decide +kernel
theorem kd1_108 : KKm 108 := by
  refine KKm_S kz_108.1 (fun i hi => ?_)
  rw [kz_108.2] at hi
  by_cases c0 : i < 40
  · have := kb_108_0 (i - 0) (by omega); rw [show 0 + (i - 0) = i by omega] at this; exact this
  by_cases c1 : i < 80
  · have := kb_108_1 (i - 40) (by omega); rw [show 40 + (i - 40) = i by omega] at this; exact this
  omega
theorem kd1_109 : KKm 109 := KKm_S (by decide +kernel) (show ∀ i, i < 28 → bAt 109 i = true by decide +kernel)
theorem kb_110_0 : ∀ i, i < 40 → bAt 110 (0 + i) = true := by decide +kernel
theorem kb_110_1 : ∀ i, i < 40 → bAt 110 (40 + i) = true := by decide +kernel
theorem kb_110_2 : ∀ i, i < 40 → bAt 110 (80 + i) = true := by decide +kernel
theorem kz_110 : okZ (kPP 110) = true ∧ (kPP 110).length = 110 := by decide +kernel
theorem kd1_110 : KKm 110 := by
  refine KKm_S kz_110.1 (fun i hi => ?_)
  rw [kz_110.2] at hi
  by_cases c0 : i < 40
  · have := kb_110_0 (i - 0) (by omega); rw [show 0 + (i - 0) = i by omega] at this; exact this
  by_cases c1 : i < 80
  · have := kb_110_1 (i - 40) (by omega); rw [show 40 + (i - 40) = i by omega] at this; exact this
  by_cases c2 : i < 120
  · have := kb_110_2 (i - 80) (by omega); rw [show 80 + (i - 80) = i by omega] at this; exact this
  omega
theorem kb_111_0 : ∀ i, i < 40 → bAt 111 (0 + i) = true := by decide +kernel
theorem kb_111_1 : ∀ i, i < 40 → bAt 111 (40 + i) = true := by decide +kernel
theorem kz_111 : okZ (kPP 111) = true ∧ (kPP 111).length = 47 := by decide +kernel
theorem kd1_111 : KKm 111 := by
  refine KKm_S kz_111.1 (fun i hi => ?_)
  rw [kz_111.2] at hi
  by_cases c0 : i < 40
  · have := kb_111_0 (i - 0) (by omega); rw [show 0 + (i - 0) = i by omega] at this; exact this
  by_cases c1 : i < 80
  · have := kb_111_1 (i - 40) (by omega); rw [show 40 + (i - 40) = i by omega] at this; exact this
  omega
theorem kd1_113 : KKm 113 := KKm_S (by decide +kernel) (show ∀ i, i < 23 → bAt 113 i = true by decide +kernel)
theorem kd1_114 : KKm 114 := KKm_S (by decide +kernel) (show ∀ i, i < 10 → bAt 114 i = true by decide +kernel)
theorem kd1_115 : KKm 115 := KKm_S (by decide +kernel) (show ∀ i, i < 26 → bAt 115 i = true by decide +kernel)
theorem kd1_116 : KKm 116 := KKm_S (by decide +kernel) (show ∀ i, i < 31 → bAt 116 i = true by decide +kernel)
theorem kd1_117 : KKm 117 := KKm_S (by decide +kernel) (show ∀ i, i < 30 → bAt 117 i = true by decide +kernel)
theorem kd1_118 : KKm 118 := KKm_S (by decide +kernel) (show ∀ i, i < 30 → bAt 118 i = true by decide +kernel)
theorem kd1_119 : KKm 119 := KKm_S (by decide +kernel) (show ∀ i, i < 30 → bAt 119 i = true by decide +kernel)
theorem kb_120_0 : ∀ i, i < 40 → bAt 120 (0 + i) = true := by decide +kernel
theorem kb_120_1 : ∀ i, i < 40 → bAt 120 (40 + i) = true := by decide +kernel
theorem kz_120 : okZ (kPP 120) = true ∧ (kPP 120).length = 42 := by decide +kernel
theorem kd1_120 : KKm 120 := by
  refine KKm_S kz_120.1 (fun i hi => ?_)
  rw [kz_120.2] at hi
  by_cases c0 : i < 40
  · have := kb_120_0 (i - 0) (by omega); rw [show 0 + (i - 0) = i by omega] at this; exact this
  by_cases c1 : i < 80
  · have := kb_120_1 (i - 40) (by omega); rw [show 40 + (i - 40) = i by omega] at this; exact this
  omega
end KOKM
