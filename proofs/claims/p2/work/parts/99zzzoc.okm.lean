/-! The checks of some tables. -/
section OKM
theorem od_57 : okM 57 = true := by decide +kernel
theorem od_58 : okM 58 = true := by decide +kernel
theorem od_59 : okM 59 = true := by decide +kernel
theorem od_60 : okM 60 = true := by decide +kernel
theorem od_61 : okM 61 = true := by decide +kernel
theorem od_62 : okM 62 = true := by decide +kernel
theorem od_63 : okM 63 = true := by decide +kernel
theorem od_64 : okM 64 = true := by decide +kernel
theorem od_65 : okM 65 = true := by decide +kernel
theorem od_66 : okM 66 = true := by decide +kernel
theorem od_67 : okM 67 = true := by decide +kernel
theorem od_68 : okM 68 = true := by decide +kernel
theorem od_69 : okM 69 = true := by decide +kernel
theorem od_70 : okM 70 = true := by decide +kernel
theorem od_71 : okM 71 = true := by decide +kernel
theorem od_72 : okM 72 = true := by decide +kernel
theorem od_73 : okM 73 = true := by decide +kernel
theorem od_74 : okM 74 = true := by decide +kernel
theorem od_75 : okM 75 = true := by decide +kernel
theorem od_76 : okM 76 = true := by decide +kernel
end OKM
