/-! The checks of some tables. -/
section OKM
theorem od_0 : OKm 0 := OKm_M (by decide +kernel)
theorem os_1_0 : ∀ i, i < 40 → okAt 1 (0 + i) = true := by decide +kernel
theorem os_1_1 : ∀ i, i < 40 → okAt 1 (40 + i) = true := by decide +kernel
theorem os_1_2 : ∀ i, i < 40 → okAt 1 (80 + i) = true := by decide +kernel
theorem os_1_3 : ∀ i, i < 40 → okAt 1 (120 + i) = true := by decide +kernel
theorem os_1_4 : ∀ i, i < 40 → okAt 1 (160 + i) = true := by decide +kernel
theorem os_1_5 : ∀ i, i < 40 → okAt 1 (200 + i) = true := by decide +kernel
theorem os_1_6 : ∀ i, i < 40 → okAt 1 (240 + i) = true := by decide +kernel
theorem os_1_7 : ∀ i, i < 40 → okAt 1 (280 + i) = true := by decide +kernel
theorem os_1_8 : ∀ i, i < 40 → okAt 1 (320 + i) = true := by decide +kernel
theorem os_1_9 : ∀ i, i < 40 → okAt 1 (360 + i) = true := by decide +kernel
theorem os_1_10 : ∀ i, i < 40 → okAt 1 (400 + i) = true := by decide +kernel
theorem os_1_11 : ∀ i, i < 40 → okAt 1 (440 + i) = true := by decide +kernel
theorem oz_1 : okZ (mjPP 1) = true ∧ (mjPP 1).length = 459 := by decide +kernel
theorem od_1 : OKm 1 := by
  refine OKm_S oz_1.1 (fun i hi => ?_)
  rw [oz_1.2] at hi
  by_cases c0 : i < 40
  · have := os_1_0 (i - 0) (by omega); rw [show 0 + (i - 0) = i by omega] at this; exact this
  by_cases c1 : i < 80
  · have := os_1_1 (i - 40) (by omega); rw [show 40 + (i - 40) = i by omega] at this; exact this
  by_cases c2 : i < 120
  · have := os_1_2 (i - 80) (by omega); rw [show 80 + (i - 80) = i by omega] at this; exact this
  by_cases c3 : i < 160
  · have := os_1_3 (i - 120) (by omega); rw [show 120 + (i - 120) = i by omega] at this; exact this
  by_cases c4 : i < 200
  · have := os_1_4 (i - 160) (by omega); rw [show 160 + (i - 160) = i by omega] at this; exact this
  by_cases c5 : i < 240
  · have := os_1_5 (i - 200) (by omega); rw [show 200 + (i - 200) = i by omega] at this; exact this
  by_cases c6 : i < 280
  · have := os_1_6 (i - 240) (by omega); rw [show 240 + (i - 240) = i by omega] at this; exact this
  by_cases c7 : i < 320
  · have := os_1_7 (i - 280) (by omega); rw [show 280 + (i - 280) = i by omega] at this; exact this
  by_cases c8 : i < 360
  · have := os_1_8 (i - 320) (by omega); rw [show 320 + (i - 320) = i by omega] at this; exact this
  by_cases c9 : i < 400
  · have := os_1_9 (i - 360) (by omega); rw [show 360 + (i - 360) = i by omega] at this; exact this
  by_cases c10 : i < 440
  · have := os_1_10 (i - 400) (by omega); rw [show 400 + (i - 400) = i by omega] at this; exact this
  by_cases c11 : i < 480
  · have := os_1_11 (i - 440) (by omega); rw [show 440 + (i - 440) = i by omega] at this; exact this
  omega
theorem os_2_0 : ∀ i, i < 40 → okAt 2 (0 + i) = true := by decide +kernel
theorem os_2_1 : ∀ i, i < 40 → okAt 2 (40 + i) = true := by decide +kernel
theorem os_2_2 : ∀ i, i < 40 → okAt 2 (80 + i) = true := by decide +kernel
theorem os_2_3 : ∀ i, i < 40 → okAt 2 (120 + i) = true := by decide +kernel
theorem os_2_4 : ∀ i, i < 40 → okAt 2 (160 + i) = true := by decide +kernel
theorem os_2_5 : ∀ i, i < 40 → okAt 2 (200 + i) = true := by decide +kernel
theorem os_2_6 : ∀ i, i < 40 → okAt 2 (240 + i) = true := by decide +kernel
theorem os_2_7 : ∀ i, i < 40 → okAt 2 (280 + i) = true := by decide +kernel
theorem os_2_8 : ∀ i, i < 40 → okAt 2 (320 + i) = true := by decide +kernel
theorem os_2_9 : ∀ i, i < 40 → okAt 2 (360 + i) = true := by decide +kernel
theorem os_2_10 : ∀ i, i < 40 → okAt 2 (400 + i) = true := by decide +kernel
theorem os_2_11 : ∀ i, i < 40 → okAt 2 (440 + i) = true := by decide +kernel
theorem os_2_12 : ∀ i, i < 40 → okAt 2 (480 + i) = true := by decide +kernel
theorem os_2_13 : ∀ i, i < 40 → okAt 2 (520 + i) = true := by decide +kernel
theorem os_2_14 : ∀ i, i < 40 → okAt 2 (560 + i) = true := by decide +kernel
theorem os_2_15 : ∀ i, i < 40 → okAt 2 (600 + i) = true := by decide +kernel
theorem os_2_16 : ∀ i, i < 40 → okAt 2 (640 + i) = true := by decide +kernel
theorem os_2_17 : ∀ i, i < 40 → okAt 2 (680 + i) = true := by decide +kernel
theorem os_2_18 : ∀ i, i < 40 → okAt 2 (720 + i) = true := by decide +kernel
theorem oz_2 : okZ (mjPP 2) = true ∧ (mjPP 2).length = 736 := by decide +kernel
theorem od_2 : OKm 2 := by
  refine OKm_S oz_2.1 (fun i hi => ?_)
  rw [oz_2.2] at hi
  by_cases c0 : i < 40
  · have := os_2_0 (i - 0) (by omega); rw [show 0 + (i - 0) = i by omega] at this; exact this
  by_cases c1 : i < 80
  · have := os_2_1 (i - 40) (by omega); rw [show 40 + (i - 40) = i by omega] at this; exact this
  by_cases c2 : i < 120
  · have := os_2_2 (i - 80) (by omega); rw [show 80 + (i - 80) = i by omega] at this; exact this
  by_cases c3 : i < 160
  · have := os_2_3 (i - 120) (by omega); rw [show 120 + (i - 120) = i by omega] at this; exact this
  by_cases c4 : i < 200
  · have := os_2_4 (i - 160) (by omega); rw [show 160 + (i - 160) = i by omega] at this; exact this
  by_cases c5 : i < 240
  · have := os_2_5 (i - 200) (by omega); rw [show 200 + (i - 200) = i by omega] at this; exact this
  by_cases c6 : i < 280
  · have := os_2_6 (i - 240) (by omega); rw [show 240 + (i - 240) = i by omega] at this; exact this
  by_cases c7 : i < 320
  · have := os_2_7 (i - 280) (by omega); rw [show 280 + (i - 280) = i by omega] at this; exact this
  by_cases c8 : i < 360
  · have := os_2_8 (i - 320) (by omega); rw [show 320 + (i - 320) = i by omega] at this; exact this
  by_cases c9 : i < 400
  · have := os_2_9 (i - 360) (by omega); rw [show 360 + (i - 360) = i by omega] at this; exact this
  by_cases c10 : i < 440
  · have := os_2_10 (i - 400) (by omega); rw [show 400 + (i - 400) = i by omega] at this; exact this
  by_cases c11 : i < 480
  · have := os_2_11 (i - 440) (by omega); rw [show 440 + (i - 440) = i by omega] at this; exact this
  by_cases c12 : i < 520
  · have := os_2_12 (i - 480) (by omega); rw [show 480 + (i - 480) = i by omega] at this; exact this
  by_cases c13 : i < 560
  · have := os_2_13 (i - 520) (by omega); rw [show 520 + (i - 520) = i by omega] at this; exact this
  by_cases c14 : i < 600
  · have := os_2_14 (i - 560) (by omega); rw [show 560 + (i - 560) = i by omega] at this; exact this
  by_cases c15 : i < 640
  · have := os_2_15 (i - 600) (by omega); rw [show 600 + (i - 600) = i by omega] at this; exact this
  by_cases c16 : i < 680
  · have := os_2_16 (i - 640) (by omega); rw [show 640 + (i - 640) = i by omega] at this; exact this
  by_cases c17 : i < 720
  · have := os_2_17 (i - 680) (by omega); rw [show 680 + (i - 680) = i by omega] at this; exact this
  by_cases c18 : i < 760
  · have := os_2_18 (i - 720) (by omega); rw [show 720 + (i - 720) = i by omega] at this; exact this
  omega
theorem od_3 : OKm 3 := OKm_M (by decide +kernel)
theorem od_4 : OKm 4 := OKm_M (by decide +kernel)
theorem od_5 : OKm 5 := OKm_M (by decide +kernel)
theorem od_6 : OKm 6 := OKm_M (by decide +kernel)
theorem od_7 : OKm 7 := OKm_M (by decide +kernel)
theorem od_8 : OKm 8 := OKm_M (by decide +kernel)
theorem od_9 : OKm 9 := OKm_M (by decide +kernel)
end OKM
