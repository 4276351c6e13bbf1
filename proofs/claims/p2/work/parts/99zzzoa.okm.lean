/-! The checks of some tables. -/
section OKM
theorem od_0 : okM 0 = true := by decide +kernel
theorem od_1 : okM 1 = true := by decide +kernel
theorem od_2 : okM 2 = true := by decide +kernel
theorem od_3 : okM 3 = true := by decide +kernel
theorem od_4 : okM 4 = true := by decide +kernel
theorem od_5 : okM 5 = true := by decide +kernel
theorem od_6 : okM 6 = true := by decide +kernel
theorem od_7 : okM 7 = true := by decide +kernel
theorem od_8 : okM 8 = true := by decide +kernel
theorem od_9 : okM 9 = true := by decide +kernel
end OKM
