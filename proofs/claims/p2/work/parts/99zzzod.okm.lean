/-! The checks of some tables. -/
section OKM
theorem od_77 : okM 77 = true := by decide +kernel
theorem od_78 : okM 78 = true := by decide +kernel
theorem od_79 : okM 79 = true := by decide +kernel
theorem od_80 : okM 80 = true := by decide +kernel
theorem od_81 : okM 81 = true := by decide +kernel
theorem od_82 : okM 82 = true := by decide +kernel
theorem od_83 : okM 83 = true := by decide +kernel
theorem od_84 : okM 84 = true := by decide +kernel
theorem od_85 : okM 85 = true := by decide +kernel
theorem od_86 : okM 86 = true := by decide +kernel
theorem od_87 : okM 87 = true := by decide +kernel
theorem od_88 : okM 88 = true := by decide +kernel
theorem od_89 : okM 89 = true := by decide +kernel
theorem od_90 : okM 90 = true := by decide +kernel
theorem od_91 : okM 91 = true := by decide +kernel
theorem od_92 : okM 92 = true := by decide +kernel
theorem od_93 : okM 93 = true := by decide +kernel
theorem od_94 : okM 94 = true := by decide +kernel
theorem od_95 : okM 95 = true := by decide +kernel
theorem od_96 : okM 96 = true := by decide +kernel
theorem od_97 : okM 97 = true := by decide +kernel
theorem od_98 : okM 98 = true := by decide +kernel
end OKM
