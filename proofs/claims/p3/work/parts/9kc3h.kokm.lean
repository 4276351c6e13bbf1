/-! The checks of some tables of the class. -/
section KOKM
theorem kd1_193 : KKm 193 := KKm_S (by decide +kernel) (show ∀ i, i < 27 → bAt 193 i = true by decide +kernel)
theorem kb_194_0 : ∀ i, i < 40 → bAt 194 (0 + i) = true := by decide +kernel
theorem kb_194_1 : ∀ i, i < 40 → bAt 194 (40 + i) = true := by decide +kernel
theorem kz_194 : okZ (kPP 194) = true ∧ (kPP 194).length = 64 := by decide +kernel
theorem kd1_194 : KKm 194 := by
  refine KKm_S kz_194.1 (fun i hi => ?_)
  rw [kz_194.2] at hi
  by_cases c0 : i < 40
  · have := kb_194_0 (i - 0) (by omega); rw [show 0 + (i - 0) = i by omega] at this; exact this
  by_cases c1 : i < 80
  · have := kb_194_1 (i - 40) (by omega); rw [show 40 + (i - 40) = i by omega] at this; exact this
  omega
theorem kb_195_0 : ∀ i, i < 40 → bAt 195 (0 + i) = true := by decide +kernel
theorem kb_195_1 : ∀ i, i < 40 → bAt 195 (40 + i) = true := by decide +kernel
theorem kz_195 : okZ (kPP 195) = true ∧ (kPP 195).length = 50 := by decide +kernel
theorem kd1_195 : KKm 195 := by
  refine KKm_S kz_195.1 (fun i hi => ?_)
  rw [kz_195.2] at hi
  by_cases c0 : i < 40
  · have := kb_195_0 (i - 0) (by omega); rw [show 0 + (i - 0) = i by omega] at this; exact this
  by_cases c1 : i < 80
  · have := kb_195_1 (i - 40) (by omega); rw [show 40 + (i - 40) = i by omega] at this; exact this
  omega
theorem kb_196_0 : ∀ i, i < 40 → bAt 196 (0 + i) = true := by decide +kernel
theorem kb_196_1 : ∀ i, i < 40 → bAt 196 (40 + i) = true := by decide +kernel
theorem kz_196 : okZ (kPP 196) = true ∧ (kPP 196).length = 78 := by decide +kernel
theorem kd1_196 : KKm 196 := by
  refine KKm_S kz_196.1 (fun i hi => ?_)
  rw [kz_196.2] at hi
  by_cases c0 : i < 40
  · have := kb_196_0 (i - 0) (by omega); rw [show 0 + (i - 0) = i by omega] at this; exact this
  by_cases c1 : i < 80
  · have := kb_196_1 (i - 40) (by omega); rw [show 40 + (i - 40) = i by omega] at this; exact this
  omega
theorem kb_197_0 : ∀ i, i < 40 → bAt 197 (0 + i) = true := by decide +kernel
theorem kb_197_1 : ∀ i, i < 40 → bAt 197 (40 + i) = true := by decide +kernel
theorem kb_197_2 : ∀ i, i < 40 → bAt 197 (80 + i) = true := by decide +kernel
theorem kz_197 : okZ (kPP 197) = true ∧ (kPP 197).length = 100 := by decide +kernel
theorem kd1_197 : KKm 197 := by
  refine KKm_S kz_197.1 (fun i hi => ?_)
  rw [kz_197.2] at hi
  by_cases c0 : i < 40
  · have := kb_197_0 (i - 0) (by omega); rw [show 0 + (i - 0) = i by omega] at this; exact this
  by_cases c1 : i < 80
  · have := kb_197_1 (i - 40) (by omega); rw [show 40 + (i - 40) = i by omega] at this; exact this
  by_cases c2 : i < 120
  · have := kb_197_2 (i - 80) (by omega); rw [show 80 + (i - 80) = i by omega] at this; exact this
  omega
theorem kb_198_0 : ∀ i, i < 40 → bAt 198 (0 + i) = true := by decide +kernel
theorem kb_198_1 : ∀ i, i < 40 → bAt 198 (40 + i) = true := by decide +kernel
theorem kb_198_2 : ∀ i, i < 40 → bAt 198 (80 + i) = true := by decide +kernel
theorem kz_198 : okZ (kPP 198) = true ∧ (kPP 198).length = 116 := by decide +kernel
theorem kd1_198 : KKm 198 := by
  refine KKm_S kz_198.1 (fun i hi => ?_)
  rw [kz_198.2] at hi
  by_cases c0 : i < 40
  · have := kb_198_0 (i - 0) (by omega); rw [show 0 + (i - 0) = i by omega] at this; exact this
  by_cases c1 : i < 80
  · have := kb_198_1 (i - 40) (by omega); rw [show 40 + (i - 40) = i by omega] at this; exact this
  by_cases c2 : i < 120
  · have := kb_198_2 (i - 80) (by omega); rw [show 80 + (i - 80) = i by omega] at this; exact this
  omega
theorem kb_199_0 : ∀ i, i < 40 → bAt 199 (0 + i) = true := by decide +kernel
theorem kb_199_1 : ∀ i, i < 40 → bAt 199 (40 + i) = true := by decide +kernel
theorem kz_199 : okZ (kPP 199) = true ∧ (kPP 199).length = 72 := by decide +kernel
theorem kd1_199 : KKm 199 := by
  refine KKm_S kz_199.1 (fun i hi => ?_)
  rw [kz_199.2] at hi
  by_cases c0 : i < 40
  · have := kb_199_0 (i - 0) (by omega); rw [show 0 + (i - 0) = i by omega] at this; exact this
  by_cases c1 : i < 80
  · have := kb_199_1 (i - 40) (by omega); rw [show 40 + (i - 40) = i by omega] at this; exact this
  omega
theorem kb_200_0 : ∀ i, i < 40 → bAt 200 (0 + i) = true := by decide +kernel
theorem kb_200_1 : ∀ i, i < 40 → bAt 200 (40 + i) = true := by decide +kernel
theorem kb_200_2 : ∀ i, i < 40 → bAt 200 (80 + i) = true := by decide +kernel
theorem kb_200_3 : ∀ i, i < 40 → bAt 200 (120 + i) = true := by decide +kernel
theorem kz_200 : okZ (kPP 200) = true ∧ (kPP 200).length = 137 := by decide +kernel
theorem kd1_200 : KKm 200 := by
  refine KKm_S kz_200.1 (fun i hi => ?_)
  rw [kz_200.2] at hi
  by_cases c0 : i < 40
  · have := kb_200_0 (i - 0) (by omega); rw [show 0 + (i - 0) = i by omega] at this; exact this
  by_cases c1 : i < 80
  · have := kb_200_1 (i - 40) (by omega); rw [show 40 + (i - 40) = i by omega] at this; exact this
  by_cases c2 : i < 120
  · have := kb_200_2 (i - 80) (by omega); rw [show 80 + (i - 80) = i by omega] at this; exact this
  by_cases c3 : i < 160
  · have := kb_200_3 (i - 120) (by omega); rw [show 120 + (i - 120) = i by omega] at this; exact this
  omega
theorem kb_202_0 : ∀ i, i < 40 → bAt 202 (0 + i) = true := by decide +kernel
theorem kb_202_1 : ∀ i, i < 40 → bAt 202 (40 + i) = true := by decide +kernel
theorem kz_202 : okZ (kPP 202) = true ∧ (kPP 202).length = 51 := by decide +kernel
theorem kd1_202 : KKm 202 := by
  refine KKm_S kz_202.1 (fun i hi => ?_)
  rw [kz_202.2] at hi
  by_cases c0 : i < 40
  · have := kb_202_0 (i - 0) (by omega); rw [show 0 + (i - 0) = i by omega] at this; exact this
  by_cases c1 : i < 80
  · have := kb_202_1 (i - 40) (by omega); rw [show 40 + (i - 40) = i by omega] at this; exact this
  omega
theorem kb_203_0 : ∀ i, i < 40 → bAt 203 (0 + i) = true := by decide +kernel
theorem kb_203_1 : ∀ i, i < 40 → bAt 203 (40 + i) = true := by decide +kernel
theorem kz_203 : okZ (kPP 203) = true ∧ (kPP 203).length = 43 := by decide +kernel
theorem kd1_203 : KKm 203 := by
  refine KKm_S kz_203.1 (fun i hi => ?_)
  rw [kz_203.2] at hi
  by_cases c0 : i < 40
  · have := kb_203_0 (i - 0) (by omega); rw [show 0 + (i - 0) = i by omega] at this; exact this
  by_cases c1 : i < 80
  · have := kb_203_1 (i - 40) (by omega); rw [show 40 + (i - 40) = i by omega] at this; exact this
  omega
theorem kd1_204 : KKm 204 := KKm_S (by decide +kernel) (show ∀ i, i < 27 → bAt 204 i = true by decide +kernel)
theorem kd1_205 : KKm 205 := KKm_S (by decide +kernel) (show ∀ i, i < 30 → bAt 205 i = true by decide +kernel)
theorem kb_206_0 : ∀ i, i < 40 → bAt 206 (0 + i) = true := by decide +kernel
theorem kb_206_1 : ∀ i, i < 40 → bAt 206 (40 + i) = true := by decide +kernel
theorem kz_206 : okZ (kPP 206) = true ∧ (kPP 206).length = 66 := by decide +kernel
theorem kd1_206 : KKm 206 := by
  refine KKm_S kz_206.1 (fun i hi => ?_)
  rw [kz_206.2] at hi
  by_cases c0 : i < 40
  · have := kb_206_0 (i - 0) (by omega); rw [show 0 + (i - 0) = i by omega] at this; exact this
  by_cases c1 : i < 80
  · have := kb_206_1 (i - 40) (by omega); rw [show 40 + (i - 40) = i by omega] at this; exact this
  omega
theorem kd1_207 : KKm 207 := KKm_S (by decide +kernel) (show ∀ i, i < 35 → bAt 207 i = true by decide +kernel)
theorem kb_208_0 : ∀ i, i < 40 → bAt 208 (0 + i) = true := by decide +kernel
theorem kb_208_1 : ∀ i, i < 40 → bAt 208 (40 + i) = true := by decide +kernel
theorem kz_208 : okZ (kPP 208) = true ∧ (kPP 208).length = 61 := by decide +kernel
theorem kd1_208 : KKm 208 := by
  refine KKm_S kz_208.1 (fun i hi => ?_)
  rw [kz_208.2] at hi
  by_cases c0 : i < 40
  · have := kb_208_0 (i - 0) (by omega); rw [show 0 + (i - 0) = i by omega] at this; exact this
  by_cases c1 : i < 80
  · have := kb_208_1 (i - 40) (by omega); rw [show 40 + (i - 40) = i by omega] at this; exact this
  omega
theorem kb_209_0 : ∀ i, i < 40 → bAt 209 (0 + i) = true := by decide +kernel
theorem kb_209_1 : ∀ i, i < 40 → bAt 209 (40 + i) = true := by decide +kernel
theorem kz_209 : okZ (kPP 209) = true ∧ (kPP 209).length = 64 := by decide +kernel
theorem kd1_209 : KKm 209 := by
  refine KKm_S kz_209.1 (fun i hi => ?_)
  rw [kz_209.2] at hi
  by_cases c0 : i < 40
  · have := kb_209_0 (i - 0) (by omega); rw [show 0 + (i - 0) = i by omega] at this; exact this
  by_cases c1 : i < 80
  · have := kb_209_1 (i - 40) (by omega); rw [show 40 + (i - 40) = i by omega] at this; exact this
  omega
theorem kb_210_0 : ∀ i, i < 40 → bAt 210 (0 + i) = true := by decide +kernel
theorem kb_210_1 : ∀ i, i < 40 → bAt 210 (40 + i) = true := by decide +kernel
theorem kz_210 : okZ (kPP 210) = true ∧ (kPP 210).length = 59 := by decide +kernel
theorem kd1_210 : KKm 210 := by
  refine KKm_S kz_210.1 (fun i hi => ?_)
  rw [kz_210.2] at hi
  by_cases c0 : i < 40
  · have := kb_210_0 (i - 0) (by omega); rw [show 0 + (i - 0) = i by omega] at this; exact this
  by_cases c1 : i < 80
  · have := kb_210_1 (i - 40) (by omega); rw [show 40 + (i - 40) = i by omega] at this; exact this
  omega
theorem kb_211_0 : ∀ i, i < 40 → bAt 211 (0 + i) = true := by decide +kernel
theorem kb_211_1 : ∀ i, i < 40 → bAt 211 (40 + i) = true := by decide +kernel
theorem kz_211 : okZ (kPP 211) = true ∧ (kPP 211).length = 59 := by decide +kernel
theorem kd1_211 : KKm 211 := by
  refine KKm_S kz_211.1 (fun i hi => ?_)
  rw [kz_211.2] at hi
  by_cases c0 : i < 40
  · have := kb_211_0 (i - 0) (by omega); rw [show 0 + (i - 0) = i by omega] at this; exact this
  by_cases c1 : i < 80
  · have := kb_211_1 (i - 40) (by omega); rw [show 40 + (i - 40) = i by omega] at this; exact this
  omega
end KOKM
