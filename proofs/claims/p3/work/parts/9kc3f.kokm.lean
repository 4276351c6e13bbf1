/-! The checks of some tables of the class. -/
section KOKM
theorem kb_148_0 : ∀ i, i < 40 → bAt 148 (0 + i) = true := by decide +kernel
theorem kb_148_1 : ∀ i, i < 40 → bAt 148 (40 + i) = true := by decide +kernel
theorem kz_148 : okZ (kPP 148) = true ∧ (kPP 148).length = 57 := by decide +kernel
theorem kd1_148 : KKm 148 := by
  refine KKm_S kz_148.1 (fun i hi => ?_)
  rw [kz_148.2] at hi
  by_cases c0 : i < 40
  · have := kb_148_0 (i - 0) (by omega); rw [show 0 + (i - 0) = i by omega] at this; exact this
  by_cases c1 : i < 80
  · have := kb_148_1 (i - 40) (by omega); rw [show 40 + (i - 40) = i by omega] at this; exact this
  omega
theorem kd1_149 : KKm 149 := KKm_S (by decide +kernel) (show ∀ i, i < 12 → bAt 149 i = true by decide +kernel)
theorem kb_150_0 : ∀ i, i < 40 → bAt 150 (0 + i) = true := by decide +kernel
theorem kb_150_1 : ∀ i, i < 40 → bAt 150 (40 + i) = true := by decide +kernel
theorem kz_150 : okZ (kPP 150) = true ∧ (kPP 150).length = 59 := by decide +kernel
theorem kd1_150 : KKm 150 := by
  refine KKm_S kz_150.1 (fun i hi => ?_)
  rw [kz_150.2] at hi
  by_cases c0 : i < 40
  · have := kb_150_0 (i - 0) (by omega); rw [show 0 + (i - 0) = i by omega] at this; exact this
  by_cases c1 : i < 80
  · have := kb_150_1 (i - 40) (by omega); rw [show 40 + (i - 40) = i by omega] at this; exact this
  omega
theorem kd1_151 : KKm 151 := KKm_S (by decide +kernel) (show ∀ i, i < 26 → bAt 151 i = true by decide +kernel)
theorem kd1_152 : KKm 152 := KKm_S (by decide +kernel) (show ∀ i, i < 26 → bAt 152 i = true by decide +kernel)
theorem kd1_153 : KKm 153 := KKm_S (by decide +kernel) (show ∀ i, i < 39 → bAt 153 i = true by decide +kernel)
theorem kb_154_0 : ∀ i, i < 40 → bAt 154 (0 + i) = true := by decide +kernel
theorem kb_154_1 : ∀ i, i < 40 → bAt 154 (40 + i) = true := by decide +kernel
theorem kz_154 : okZ (kPP 154) = true ∧ (kPP 154).length = 54 := by decide +kernel
theorem kd1_154 : KKm 154 := by
  refine KKm_S kz_154.1 (fun i hi => ?_)
  rw [kz_154.2] at hi
  by_cases c0 : i < 40
  · have := kb_154_0 (i - 0) (by omega); rw [show 0 + (i - 0) = i by omega] at this; exact this
  by_cases c1 : i < 80
  · have := kb_154_1 (i - 40) (by omega); rw [show 40 + (i - 40) = i by omega] at this; exact this
  omega
theorem kb_155_0 : ∀ i, i < 40 → bAt 155 (0 + i) = true := by decide +kernel
theorem kb_155_1 : ∀ i, i < 40 → bAt 155 (40 + i) = true := by decide +kernel
theorem kz_155 : okZ (kPP 155) = true ∧ (kPP 155).length = 44 := by decide +kernel
theorem kd1_155 : KKm 155 := by
  refine KKm_S kz_155.1 (fun i hi => ?_)
  rw [kz_155.2] at hi
  by_cases c0 : i < 40
  · have := kb_155_0 (i - 0) (by omega); rw [show 0 + (i - 0) = i by omega] at this; exact this
  by_cases c1 : i < 80
  · have := kb_155_1 (i - 40) (by omega); rw [show 40 + (i - 40) = i by omega] at this; exact this
  omega
theorem kb_156_0 : ∀ i, i < 40 → bAt 156 (0 + i) = true := by decide +kernel
theorem kb_156_1 : ∀ i, i < 40 → bAt 156 (40 + i) = true := by decide +kernel
theorem kz_156 : okZ (kPP 156) = true ∧ (kPP 156).length = 73 := by decide +kernel
theorem kd1_156 : KKm 156 := by
  refine KKm_S kz_156.1 (fun i hi => ?_)
  rw [kz_156.2] at hi
  by_cases c0 : i < 40
  · have := kb_156_0 (i - 0) (by omega); rw [show 0 + (i - 0) = i by omega] at this; exact this
  by_cases c1 : i < 80
  · have := kb_156_1 (i - 40) (by omega); rw [show 40 + (i - 40) = i by omega] at this; exact this
  omega
theorem kd1_157 : KKm 157 := KKm_S (by decide +kernel) (show ∀ i, i < 37 → bAt 157 i = true by decide +kernel)
theorem kd1_158 : KKm 158 := KKm_S (by decide +kernel) (show ∀ i, i < 40 → bAt 158 i = true by decide +kernel)
theorem kb_159_0 : ∀ i, i < 40 → bAt 159 (0 + i) = true := by decide +kernel
theorem kb_159_1 : ∀ i, i < 40 → bAt 159 (40 + i) = true := by decide +kernel
theorem kz_159 : okZ (kPP 159) = true ∧ (kPP 159).length = 44 := by decide +kernel
theorem kd1_159 : KKm 159 := by
  refine KKm_S kz_159.1 (fun i hi => ?_)
  rw [kz_159.2] at hi
  by_cases c0 : i < 40
  · have := kb_159_0 (i - 0) (by omega); rw [show 0 + (i - 0) = i by omega] at this; exact this
  by_cases c1 : i < 80
  · have := kb_159_1 (i - 40) (by omega); rw [show 40 + (i - 40) = i by omega] at this; exact this
  omega
theorem kb_160_0 : ∀ i, i < 40 → bAt 160 (0 + i) = true := by decide +kernel
theorem kb_160_1 : ∀ i, i < 40 → bAt 160 (40 + i) = true := by decide +kernel
theorem kb_160_2 : ∀ i, i < 40 → bAt 160 (80 + i) = true := by decide +kernel
theorem kz_160 : okZ (kPP 160) = true ∧ (kPP 160).length = 84 := by decide +kernel
theorem kd1_160 : KKm 160 := by
  refine KKm_S kz_160.1 (fun i hi => ?_)
  rw [kz_160.2] at hi
  by_cases c0 : i < 40
  · have := kb_160_0 (i - 0) (by omega); rw [show 0 + (i - 0) = i by omega] at this; exact this
  by_cases c1 : i < 80
  · have := kb_160_1 (i - 40) (by omega); rw [show 40 + (i - 40) = i by omega] at this; exact this
  by_cases c2 : i < 120
  · have := kb_160_2 (i - 80) (by omega); rw [show 80 + (i - 80) = i by omega] at this; exact this
  omega
theorem kb_162_0 : ∀ i, i < 40 → bAt 162 (0 + i) = true := by decide +kernel
theorem kb_162_1 : ∀ i, i < 40 → bAt 162 (40 + i) = true := by decide +kernel
theorem kz_162 : okZ (kPP 162) = true ∧ (kPP 162).length = 61 := by decide +kernel
theorem kd1_162 : KKm 162 := by
  refine KKm_S kz_162.1 (fun i hi => ?_)
  rw [kz_162.2] at hi
  by_cases c0 : i < 40
  · have := kb_162_0 (i - 0) (by omega); rw [show 0 + (i - 0) = i by omega] at this; exact this
  by_cases c1 : i < 80
  · have := kb_162_1 (i - 40) (by omega); rw [show 40 + (i - 40) = i by omega] at this; exact this
  omega
theorem kd1_163 : KKm 163 := KKm_S (by decide +kernel) (show ∀ i, i < 22 → bAt 163 i = true by decide +kernel)
theorem kb_164_0 : ∀ i, i < 40 → bAt 164 (0 + i) = true := by decide +kernel
theorem kb_164_1 : ∀ i, i < 40 → bAt 164 (40 + i) = true := by decide +kernel
theorem kz_164 : okZ (kPP 164) = true ∧ (kPP 164).length = 51 := by decide +kernel
theorem kd1_164 : KKm 164 := by
  refine KKm_S kz_164.1 (fun i hi => ?_)
  rw [kz_164.2] at hi
  by_cases c0 : i < 40
  · have := kb_164_0 (i - 0) (by omega); rw [show 0 + (i - 0) = i by omega] at this; exact this
  by_cases c1 : i < 80
  · have := kb_164_1 (i - 40) (by omega); rw [show 40 + (i - 40) = i by omega] at this; exact this
  omega
theorem kd1_165 : KKm 165 := KKm_S (by decide +kernel) (show ∀ i, i < 28 → bAt 165 i = true by decide +kernel)
theorem kd1_166 : KKm 166 := KKm_S (by decide +kernel) (show ∀ i, i < 35 → bAt 166 i = true by decide +kernel)
theorem kd1_167 : KKm 167 := KKm_S (by decide +kernel) (show ∀ i, i < 28 → bAt 167 i = true by decide +kernel)
theorem kd1_168 : KKm 168 := KKm_S (by decide +kernel) (show ∀ i, i < 16 → bAt 168 i = true by decide +kernel)
theorem kb_169_0 : ∀ i, i < 40 → bAt 169 (0 + i) = true := by decide +kernel
theorem kb_169_1 : ∀ i, i < 40 → bAt 169 (40 + i) = true := by decide +kernel
theorem kz_169 : okZ (kPP 169) = true ∧ (kPP 169).length = 65 := by decide +kernel
theorem kd1_169 : KKm 169 := by
  refine KKm_S kz_169.1 (fun i hi => ?_)
  rw [kz_169.2] at hi
  by_cases c0 : i < 40
  · have := kb_169_0 (i - 0) (by omega); rw [show 0 + (i - 0) = i by omega] at this; exact this
  by_cases c1 : i < 80
  · have := kb_169_1 (i - 40) (by omega); rw [show 40 + (i - 40) = i by omega] at this; exact this
  omega
theorem kb_170_0 : ∀ i, i < 40 → bAt 170 (0 + i) = true := by decide +kernel
theorem kb_170_1 : ∀ i, i < 40 → bAt 170 (40 + i) = true := by decide +kernel
theorem kb_170_2 : ∀ i, i < 40 → bAt 170 (80 + i) = true := by decide +kernel
theorem kz_170 : okZ (kPP 170) = true ∧ (kPP 170).length = 100 := by decide +kernel
theorem kd1_170 : KKm 170 := by
  refine KKm_S kz_170.1 (fun i hi => ?_)
  rw [kz_170.2] at hi
  by_cases c0 : i < 40
  · have := kb_170_0 (i - 0) (by omega); rw [show 0 + (i - 0) = i by omega] at this; exact this
  by_cases c1 : i < 80
  · have := kb_170_1 (i - 40) (by omega); rw [show 40 + (i - 40) = i by omega] at this; exact this
  by_cases c2 : i < 120
  · have := kb_170_2 (i - 80) (by omega); rw [show 80 + (i - 80) = i by omega] at this; exact this
  omega
theorem kb_171_0 : ∀ i, i < 40 → bAt 171 (0 + i) = true := by decide +kernel
theorem kb_171_1 : ∀ i, i < 40 → bAt 171 (40 + i) = true := by decide +kernel
theorem kz_171 : okZ (kPP 171) = true ∧ (kPP 171).length = 42 := by decide +kernel
theorem kd1_171 : KKm 171 := by
  refine KKm_S kz_171.1 (fun i hi => ?_)
  rw [kz_171.2] at hi
  by_cases c0 : i < 40
  · have := kb_171_0 (i - 0) (by omega); rw [show 0 + (i - 0) = i by omega] at this; exact this
  by_cases c1 : i < 80
  · have := kb_171_1 (i - 40) (by omega); rw [show 40 + (i - 40) = i by omega] at this; exact this
  omega
theorem kb_172_0 : ∀ i, i < 40 → bAt 172 (0 + i) = true := by decide +kernel
theorem kb_172_1 : ∀ i, i < 40 → bAt 172 (40 + i) = true := by decide +kernel
theorem kb_172_2 : ∀ i, i < 40 → bAt 172 (80 + i) = true := by decide +kernel
theorem kb_172_3 : ∀ i, i < 40 → bAt 172 (120 + i) = true := by decide +kernel
theorem kz_172 : okZ (kPP 172) = true ∧ (kPP 172).length = 139 := by decide +kernel
theorem kd1_172 : KKm 172 := by
  refine KKm_S kz_172.1 (fun i hi => ?_)
  rw [kz_172.2] at hi
  by_cases c0 : i < 40
  · have := kb_172_0 (i - 0) (by omega); rw [show 0 + (i - 0) = i by omega] at this; exact this
  by_cases c1 : i < 80
  · have := kb_172_1 (i - 40) (by omega); rw [show 40 + (i - 40) = i by omega] at this; exact this
  by_cases c2 : i < 120
  · have := kb_172_2 (i - 80) (by omega); rw [show 80 + (i - 80) = i by omega] at this; exact this
  by_cases c3 : i < 160
  · have := kb_172_3 (i - 120) (by omega); rw [show 120 + (i - 120) = i by omega] at this; exact this
  omega
end KOKM
