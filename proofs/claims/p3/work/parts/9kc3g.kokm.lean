/-! The checks of some tables of the class. -/
section KOKM
theorem kd1_173 : KKm 173 := KKm_S (by decide +kernel) (show ∀ i, i < 23 → bAt 173 i = true by decide +kernel)
theorem kd1_174 : KKm 174 := KKm_S (by decide +kernel) (show ∀ i, i < 34 → bAt 174 i = true by decide +kernel)
theorem kd1_175 : KKm 175 := KKm_S (by decide +kernel) (show ∀ i, i < 28 → bAt 175 i = true by decide +kernel)
theorem kb_176_0 : ∀ i, i < 40 → bAt 176 (0 + i) = true := by decide +kernel
theorem kb_176_1 : ∀ i, i < 40 → bAt 176 (40 + i) = true := by decide +kernel
theorem kb_176_2 : ∀ i, i < 40 → bAt 176 (80 + i) = true := by decide +kernel
theorem kz_176 : okZ (kPP 176) = true ∧ (kPP 176).length = 91 := by decide +kernel
theorem kd1_176 : KKm 176 := by
  refine KKm_S kz_176.1 (fun i hi => ?_)
  rw [kz_176.2] at hi
  by_cases c0 : i < 40
  · have := kb_176_0 (i - 0) (by omega); rw [show 0 + (i - 0) = i by omega] at this; exact this
  by_cases c1 : i < 80
  · have := kb_176_1 (i - 40) (by omega); rw [show 40 + (i - 40) = i by omega] at this; exact this
  by_cases c2 : i < 120
  · have := kb_176_2 (i - 80) (by omega); rw [show 80 + (i - 80) = i by omega] at this; exact this
  omega
theorem kb_177_0 : ∀ i, i < 40 → bAt 177 (0 + i) = true := by decide +kernel
theorem kb_177_1 : ∀ i, i < 40 → bAt 177 (40 + i) = true := by decide +kernel
theorem kz_177 : okZ (kPP 177) = true ∧ (kPP 177).length = 45 := by decide +kernel
theorem kd1_177 : KKm 177 := by
  refine KKm_S kz_177.1 (fun i hi => ?_)
  rw [kz_177.2] at hi
  by_cases c0 : i < 40
  · have := kb_177_0 (i - 0) (by omega); rw [show 0 + (i - 0) = i by omega] at this; exact this
  by_cases c1 : i < 80
  · have := kb_177_1 (i - 40) (by omega); rw [show 40 + (i - 40) = i by omega] at this; exact this
  omega
theorem kd1_178 : KKm 178 := KKm_S (by decide +kernel) (show ∀ i, i < 40 → bAt 178 i = true by decide +kernel)
theorem kb_179_0 : ∀ i, i < 40 → bAt 179 (0 + i) = true := by decide +kernel
theorem kb_179_1 : ∀ i, i < 40 → bAt 179 (40 + i) = true := by decide +kernel
theorem kz_179 : okZ (kPP 179) = true ∧ (kPP 179).length = 55 := by decide +kernel
theorem kd1_179 : KKm 179 := by
  refine KKm_S kz_179.1 (fun i hi => ?_)
  rw [kz_179.2] at hi
  by_cases c0 : i < 40
  · have := kb_179_0 (i - 0) (by omega); rw [show 0 + (i - 0) = i by omega] at this; exact this
  by_cases c1 : i < 80
  · have := kb_179_1 (i - 40) (by omega); rw [show 40 + (i - 40) = i by omega] at this; exact this
  omega
theorem kb_180_0 : ∀ i, i < 40 → bAt 180 (0 + i) = true := by decide +kernel
theorem kb_180_1 : ∀ i, i < 40 → bAt 180 (40 + i) = true := by decide +kernel
theorem kz_180 : okZ (kPP 180) = true ∧ (kPP 180).length = 76 := by decide +kernel
theorem kd1_180 : KKm 180 := by
  refine KKm_S kz_180.1 (fun i hi => ?_)
  rw [kz_180.2] at hi
  by_cases c0 : i < 40
  · have := kb_180_0 (i - 0) (by omega); rw [show 0 + (i - 0) = i by omega] at this; exact this
  by_cases c1 : i < 80
  · have := kb_180_1 (i - 40) (by omega); rw [show 40 + (i - 40) = i by omega] at this; exact this
  omega
theorem kb_181_0 : ∀ i, i < 40 → bAt 181 (0 + i) = true := by decide +kernel
theorem kb_181_1 : ∀ i, i < 40 → bAt 181 (40 + i) = true := by decide +kernel
theorem kb_181_2 : ∀ i, i < 40 → bAt 181 (80 + i) = true := by decide +kernel
theorem kb_181_3 : ∀ i, i < 40 → bAt 181 (120 + i) = true := by decide +kernel
theorem kz_181 : okZ (kPP 181) = true ∧ (kPP 181).length = 122 := by decide +kernel
theorem kd1_181 : KKm 181 := by
  refine KKm_S kz_181.1 (fun i hi => ?_)
  rw [kz_181.2] at hi
  by_cases c0 : i < 40
  · have := kb_181_0 (i - 0) (by omega); rw [show 0 + (i - 0) = i by omega] at this; exact this
  by_cases c1 : i < 80
  · have := kb_181_1 (i - 40) (by omega); rw [show 40 + (i - 40) = i by omega] at this; exact this
  by_cases c2 : i < 120
  · have := kb_181_2 (i - 80) (by omega); rw [show 80 + (i - 80) = i by omega] at this; exact this
  by_cases c3 : i < 160
  · have := kb_181_3 (i - 120) (by omega); rw [show 120 + (i - 120) = i by omega] at this; exact this
  omega
theorem kd1_182 : KKm 182 := KKm_S (by decide +kernel) (show ∀ i, i < 22 → bAt 182 i = true by decide +kernel)
theorem kd1_183 : KKm 183 := KKm_S (by decide +kernel) (show ∀ i, i < 19 → bAt 183 i = true by decide +kernel)
theorem kb_184_0 : ∀ i, i < 40 → bAt 184 (0 + i) = true := by decide +kernel
theorem kb_184_1 : ∀ i, i < 40 → bAt 184 (40 + i) = true := by decide +kernel
theorem kb_184_2 : ∀ i, i < 40 → bAt 184 (80 + i) = true := by decide +kernel
theorem kz_184 : okZ (kPP 184) = true ∧ (kPP 184).length = 117 := by decide +kernel
theorem kd1_184 : KKm 184 := by
  refine KKm_S kz_184.1 (fun i hi => ?_)
  rw [kz_184.2] at hi
  by_cases c0 : i < 40
  · have := kb_184_0 (i - 0) (by omega); rw [show 0 + (i - 0) = i by omega] at this; exact this
  by_cases c1 : i < 80
  · have := kb_184_1 (i - 40) (by omega); rw [show 40 + (i - 40) = i by omega] at this; exact this
  by_cases c2 : i < 120
  · have := kb_184_2 (i - 80) (by omega); rw [show 80 + (i - 80) = i by omega] at this; exact this
  omega
theorem kb_185_0 : ∀ i, i < 40 → bAt 185 (0 + i) = true := by decide +kernel
theorem kb_185_1 : ∀ i, i < 40 → bAt 185 (40 + i) = true := by decide +kernel
theorem kz_185 : okZ (kPP 185) = true ∧ (kPP 185).length = 54 := by decide +kernel
theorem kd1_185 : KKm 185 := by
  refine KKm_S kz_185.1 (fun i hi => ?_)
  rw [kz_185.2] at hi
  by_cases c0 : i < 40
  · have := kb_185_0 (i - 0) (by omega); rw [show 0 + (i - 0) = i by omega] at this; exact this
  by_cases c1 : i < 80
  · have := kb_185_1 (i - 40) (by omega); rw [show 40 + (i - 40) = i by omega] at this; exact this
  omega
theorem kb_186_0 : ∀ i, i < 40 → bAt 186 (0 + i) = true := by decide +kernel
theorem kb_186_1 : ∀ i, i < 40 → bAt 186 (40 + i) = true := by decide +kernel
theorem kz_186 : okZ (kPP 186) = true ∧ (kPP 186).length = 73 := by decide +kernel
theorem kd1_186 : KKm 186 := by
  refine KKm_S kz_186.1 (fun i hi => ?_)
  rw [kz_186.2] at hi
  by_cases c0 : i < 40
  · have := kb_186_0 (i - 0) (by omega); rw [show 0 + (i - 0) = i by omega] at this; exact this
  by_cases c1 : i < 80
  · have := kb_186_1 (i - 40) (by omega); rw [show 40 + (i - 40) = i by omega] at this; exact this
  omega
theorem kb_188_0 : ∀ i, i < 40 → bAt 188 (0 + i) = true := by decide +kernel
theorem kb_188_1 : ∀ i, i < 40 → bAt 188 (40 + i) = true := by decide +kernel
theorem kz_188 : okZ (kPP 188) = true ∧ (kPP 188).length = 64 := by decide +kernel
theorem kd1_188 : KKm 188 := by
  refine KKm_S kz_188.1 (fun i hi => ?_)
  rw [kz_188.2] at hi
  by_cases c0 : i < 40
  · have := kb_188_0 (i - 0) (by omega); rw [show 0 + (i - 0) = i by omega] at this; exact this
  by_cases c1 : i < 80
  · have := kb_188_1 (i - 40) (by omega); rw [show 40 + (i - 40) = i by omega] at this; exact this
  omega
theorem kd1_189 : KKm 189 := KKm_S (by decide +kernel) (show ∀ i, i < 25 → bAt 189 i = true by decide +kernel)
theorem kd1_190 : KKm 190 := KKm_S (by decide +kernel) (show ∀ i, i < 27 → bAt 190 i = true by decide +kernel)
theorem kb_191_0 : ∀ i, i < 40 → bAt 191 (0 + i) = true := by decide +kernel
theorem kb_191_1 : ∀ i, i < 40 → bAt 191 (40 + i) = true := by decide +kernel
theorem kz_191 : okZ (kPP 191) = true ∧ (kPP 191).length = 71 := by decide +kernel
theorem kd1_191 : KKm 191 := by
  refine KKm_S kz_191.1 (fun i hi => ?_)
  rw [kz_191.2] at hi
  by_cases c0 : i < 40
  · have := kb_191_0 (i - 0) (by omega); rw [show 0 + (i - 0) = i by omega] at this; exact this
  by_cases c1 : i < 80
  · have := kb_191_1 (i - 40) (by omega); rw [show 40 + (i - 40) = i by omega] at this; exact this
  omega
theorem kb_192_0 : ∀ i, i < 40 → bAt 192 (0 + i) = true := by decide +kernel
theorem kb_192_1 : ∀ i, i < 40 → bAt 192 (40 + i) = true := by decide +kernel
theorem kb_192_2 : ∀ i, i < 40 → bAt 192 (80 + i) = true := by decide +kernel
theorem kb_192_3 : ∀ i, i < 40 → bAt 192 (120 + i) = true := by decide +kernel
theorem kz_192 : okZ (kPP 192) = true ∧ (kPP 192).length = 124 := by decide +kernel
theorem kd1_192 : KKm 192 := by
  refine KKm_S kz_192.1 (fun i hi => ?_)
  rw [kz_192.2] at hi
  by_cases c0 : i < 40
  · have := kb_192_0 (i - 0) (by omega); rw [show 0 + (i - 0) = i by omega] at this; exact this
  by_cases c1 : i < 80
  · have := kb_192_1 (i - 40) (by omega); rw [show 40 + (i - 40) = i by omega] at this; exact this
  by_cases c2 : i < 120
  · have := kb_192_2 (i - 80) (by omega); rw [show 80 + (i - 80) = i by omega] at this; exact this
  by_cases c3 : i < 160
  · have := kb_192_3 (i - 120) (by omega); rw [show 120 + (i - 120) = i by omega] at this; exact this
  omega
end KOKM
