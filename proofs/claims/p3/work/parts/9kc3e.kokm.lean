/-! The checks of some tables of the class. -/
section KOKM
theorem kd1_121 : KKm 121 := KKm_S (by decide +kernel) (show ∀ i, i < 40 → bAt 121 i = true by decide +kernel)
theorem kd1_122 : KKm 122 := KKm_S (by decide +kernel) (show ∀ i, i < 35 → bAt 122 i = true by decide +kernel)
theorem kd1_123 : KKm 123 := KKm_S (by decide +kernel) (show ∀ i, i < 32 → bAt 123 i = true by decide +kernel)
theorem kb_124_0 : ∀ i, i < 40 → bAt 124 (0 + i) = true := by decide +kernel
theorem kb_124_1 : ∀ i, i < 40 → bAt 124 (40 + i) = true := by decide +kernel
theorem kz_124 : okZ (kPP 124) = true ∧ (kPP 124).length = 47 := by decide +kernel
theorem kd1_124 : KKm 124 := by
  refine KKm_S kz_124.1 (fun i hi => ?_)
  rw [kz_124.2] at hi
  by_cases c0 : i < 40
  · have := kb_124_0 (i - 0) (by omega); rw [show 0 + (i - 0) = i by omega] at this; exact this
  by_cases c1 : i < 80
  · have := kb_124_1 (i - 40) (by omega); rw [show 40 + (i - 40) = i by omega] at this; exact this
  omega
theorem kd1_125 : KKm 125 := KKm_S (by decide +kernel) (show ∀ i, i < 40 → bAt 125 i = true by decide +kernel)
theorem kd1_127 : KKm 127 := KKm_S (by decide +kernel) (show ∀ i, i < 23 → bAt 127 i = true by decide +kernel)
theorem kd1_128 : KKm 128 := KKm_S (by decide +kernel) (show ∀ i, i < 13 → bAt 128 i = true by decide +kernel)
theorem kd1_129 : KKm 129 := KKm_S (by decide +kernel) (show ∀ i, i < 26 → bAt 129 i = true by decide +kernel)
theorem kd1_130 : KKm 130 := KKm_S (by decide +kernel) (show ∀ i, i < 17 → bAt 130 i = true by decide +kernel)
theorem kb_131_0 : ∀ i, i < 40 → bAt 131 (0 + i) = true := by decide +kernel
theorem kb_131_1 : ∀ i, i < 40 → bAt 131 (40 + i) = true := by decide +kernel
theorem kz_131 : okZ (kPP 131) = true ∧ (kPP 131).length = 53 := by decide +kernel
theorem kd1_131 : KKm 131 := by
  refine KKm_S kz_131.1 (fun i hi => ?_)
  rw [kz_131.2] at hi
  by_cases c0 : i < 40
  · have := kb_131_0 (i - 0) (by omega); rw [show 0 + (i - 0) = i by omega] at this; exact this
  by_cases c1 : i < 80
  · have := kb_131_1 (i - 40) (by omega); rw [show 40 + (i - 40) = i by omega] at this; exact this
  omega
theorem kd1_132 : KKm 132 := KKm_S (by decide +kernel) (show ∀ i, i < 13 → bAt 132 i = true by decide +kernel)
theorem kb_133_0 : ∀ i, i < 40 → bAt 133 (0 + i) = true := by decide +kernel
theorem kb_133_1 : ∀ i, i < 40 → bAt 133 (40 + i) = true := by decide +kernel
theorem kz_133 : okZ (kPP 133) = true ∧ (kPP 133).length = 49 := by decide +kernel
theorem kd1_133 : KKm 133 := by
  refine KKm_S kz_133.1 (fun i hi => ?_)
  rw [kz_133.2] at hi
  by_cases c0 : i < 40
  · have := kb_133_0 (i - 0) (by omega); rw [show 0 + (i - 0) = i by omega] at this; exact this
  by_cases c1 : i < 80
  · have := kb_133_1 (i - 40) (by omega); rw [show 40 + (i - 40) = i by omega] at this; exact this
  omega
theorem kb_134_0 : ∀ i, i < 40 → bAt 134 (0 + i) = true := by decide +kernel
theorem kb_134_1 : ∀ i, i < 40 → bAt 134 (40 + i) = true := by decide +kernel
theorem kz_134 : okZ (kPP 134) = true ∧ (kPP 134).length = 71 := by decide +kernel
theorem kd1_134 : KKm 134 := by
  refine KKm_S kz_134.1 (fun i hi => ?_)
  rw [kz_134.2] at hi
  by_cases c0 : i < 40
  · have := kb_134_0 (i - 0) (by omega); rw [show 0 + (i - 0) = i by omega] at this; exact this
  by_cases c1 : i < 80
  · have := kb_134_1 (i - 40) (by omega); rw [show 40 + (i - 40) = i by omega] at this; exact this
  omega
theorem kb_135_0 : ∀ i, i < 40 → bAt 135 (0 + i) = true := by decide +kernel
theorem kb_135_1 : ∀ i, i < 40 → bAt 135 (40 + i) = true := by decide +kernel
theorem kz_135 : okZ (kPP 135) = true ∧ (kPP 135).length = 44 := by decide +kernel
theorem kd1_135 : KKm 135 := by
  refine KKm_S kz_135.1 (fun i hi => ?_)
  rw [kz_135.2] at hi
  by_cases c0 : i < 40
  · have := kb_135_0 (i - 0) (by omega); rw [show 0 + (i - 0) = i by omega] at this; exact this
  by_cases c1 : i < 80
  · have := kb_135_1 (i - 40) (by omega); rw [show 40 + (i - 40) = i by omega] at this; exact this
  omega
theorem kd1_136 : KKm 136 := KKm_S (by decide +kernel) (show ∀ i, i < 27 → bAt 136 i = true by decide +kernel)
theorem kd1_137 : KKm 137 := KKm_S (by decide +kernel) (show ∀ i, i < 24 → bAt 137 i = true by decide +kernel)
theorem kb_138_0 : ∀ i, i < 40 → bAt 138 (0 + i) = true := by decide +kernel
theorem kb_138_1 : ∀ i, i < 40 → bAt 138 (40 + i) = true := by decide +kernel
theorem kz_138 : okZ (kPP 138) = true ∧ (kPP 138).length = 48 := by decide +kernel
theorem kd1_138 : KKm 138 := by
  refine KKm_S kz_138.1 (fun i hi => ?_)
  rw [kz_138.2] at hi
  by_cases c0 : i < 40
  · have := kb_138_0 (i - 0) (by omega); rw [show 0 + (i - 0) = i by omega] at this; exact this
  by_cases c1 : i < 80
  · have := kb_138_1 (i - 40) (by omega); rw [show 40 + (i - 40) = i by omega] at this; exact this
  omega
theorem kd1_139 : KKm 139 := KKm_S (by decide +kernel) (show ∀ i, i < 21 → bAt 139 i = true by decide +kernel)
theorem kd1_140 : KKm 140 := KKm_S (by decide +kernel) (show ∀ i, i < 25 → bAt 140 i = true by decide +kernel)
theorem kb_141_0 : ∀ i, i < 40 → bAt 141 (0 + i) = true := by decide +kernel
theorem kb_141_1 : ∀ i, i < 40 → bAt 141 (40 + i) = true := by decide +kernel
theorem kz_141 : okZ (kPP 141) = true ∧ (kPP 141).length = 58 := by decide +kernel
theorem kd1_141 : KKm 141 := by
  refine KKm_S kz_141.1 (fun i hi => ?_)
  rw [kz_141.2] at hi
  by_cases c0 : i < 40
  · have := kb_141_0 (i - 0) (by omega); rw [show 0 + (i - 0) = i by omega] at this; exact this
  by_cases c1 : i < 80
  · have := kb_141_1 (i - 40) (by omega); rw [show 40 + (i - 40) = i by omega] at this; exact this
  omega
theorem kb_142_0 : ∀ i, i < 40 → bAt 142 (0 + i) = true := by decide +kernel
theorem kb_142_1 : ∀ i, i < 40 → bAt 142 (40 + i) = true := by decide +kernel
theorem kb_142_2 : ∀ i, i < 40 → bAt 142 (80 + i) = true := by decide +kernel
theorem kz_142 : okZ (kPP 142) = true ∧ (kPP 142).length = 112 := by decide +kernel
theorem kd1_142 : KKm 142 := by
  refine KKm_S kz_142.1 (fun i hi => ?_)
  rw [kz_142.2] at hi
  by_cases c0 : i < 40
  · have := kb_142_0 (i - 0) (by omega); rw [show 0 + (i - 0) = i by omega] at this; exact this
  by_cases c1 : i < 80
  · have := kb_142_1 (i - 40) (by omega); rw [show 40 + (i - 40) = i by omega] at this; exact this
  by_cases c2 : i < 120
  · have := kb_142_2 (i - 80) (by omega); rw [show 80 + (i - 80) = i by omega] at this; exact this
  omega
theorem kb_143_0 : ∀ i, i < 40 → bAt 143 (0 + i) = true := by decide +kernel
theorem kb_143_1 : ∀ i, i < 40 → bAt 143 (40 + i) = true := by decide +kernel
theorem kz_143 : okZ (kPP 143) = true ∧ (kPP 143).length = 78 := by decide +kernel
theorem kd1_143 : KKm 143 := by
  refine KKm_S kz_143.1 (fun i hi => ?_)
  rw [kz_143.2] at hi
  by_cases c0 : i < 40
  · have := kb_143_0 (i - 0) (by omega); rw [show 0 + (i - 0) = i by omega] at this; exact this
  by_cases c1 : i < 80
  · have := kb_143_1 (i - 40) (by omega); rw [show 40 + (i - 40) = i by omega] at this; exact this
  omega
theorem kb_144_0 : ∀ i, i < 40 → bAt 144 (0 + i) = true := by decide +kernel
theorem kb_144_1 : ∀ i, i < 40 → bAt 144 (40 + i) = true := by decide +kernel
theorem kb_144_2 : ∀ i, i < 40 → bAt 144 (80 + i) = true := by decide +kernel
theorem kb_144_3 : ∀ i, i < 40 → bAt 144 (120 + i) = true := by decide +kernel
theorem kz_144 : okZ (kPP 144) = true ∧ (kPP 144).length = 129 := by decide +kernel
theorem kd1_144 : KKm 144 := by
  refine KKm_S kz_144.1 (fun i hi => ?_)
  rw [kz_144.2] at hi
  by_cases c0 : i < 40
  · have := kb_144_0 (i - 0) (by omega); rw [show 0 + (i - 0) = i by omega] at this; exact this
  by_cases c1 : i < 80
  · have := kb_144_1 (i - 40) (by omega); rw [show 40 + (i - 40) = i by omega] at this; exact this
  by_cases c2 : i < 120
  · have := kb_144_2 (i - 80) (by omega); rw [show 80 + (i - 80) = i by omega] at this; exact this
  by_cases c3 : i < 160
  · have := kb_144_3 (i - 120) (by omega); rw [show 120 + (i - 120) = i by omega] at this; exact this
  omega
theorem kb_145_0 : ∀ i, i < 40 → bAt 145 (0 + i) = true := by decide +kernel
theorem kb_145_1 : ∀ i, i < 40 → bAt 145 (40 + i) = true := by decide +kernel
theorem kz_145 : okZ (kPP 145) = true ∧ (kPP 145).length = 44 := by decide +kernel
theorem kd1_145 : KKm 145 := by
  refine KKm_S kz_145.1 (fun i hi => ?_)
  rw [kz_145.2] at hi
  by_cases c0 : i < 40
  · have := kb_145_0 (i - 0) (by omega); rw [show 0 + (i - 0) = i by omega] at this; exact this
  by_cases c1 : i < 80
  · have := kb_145_1 (i - 40) (by omega); rw [show 40 + (i - 40) = i by omega] at this; exact this
  omega
theorem kd1_146 : KKm 146 := KKm_S (by decide +kernel) (show ∀ i, i < 25 → bAt 146 i = true by decide +kernel)
theorem kd1_147 : KKm 147 := KKm_S (by decide +kernel) (show ∀ i, i < 33 → bAt 147 i = true by decide +kernel)
end KOKM
