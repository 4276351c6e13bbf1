/-! The checks of some tables. -/
section OKM
theorem od_99 : okM 99 = true := by decide +kernel
theorem od_100 : okM 100 = true := by decide +kernel
theorem od_101 : okM 101 = true := by decide +kernel
theorem od_102 : okM 102 = true := by decide +kernel
theorem od_103 : okM 103 = true := by decide +kernel
theorem od_104 : okM 104 = true := by decide +kernel
theorem od_105 : okM 105 = true := by decide +kernel
theorem od_106 : okM 106 = true := by decide +kernel
theorem od_107 : okM 107 = true := by decide +kernel
theorem od_108 : okM 108 = true := by decide +kernel
theorem od_109 : okM 109 = true := by decide +kernel
theorem od_110 : okM 110 = true := by decide +kernel
theorem od_111 : okM 111 = true := by decide +kernel
theorem od_112 : okM 112 = true := by decide +kernel
theorem od_113 : okM 113 = true := by decide +kernel
theorem od_114 : okM 114 = true := by decide +kernel
theorem od_115 : okM 115 = true := by decide +kernel
theorem od_116 : okM 116 = true := by decide +kernel
theorem od_117 : okM 117 = true := by decide +kernel
theorem od_118 : okM 118 = true := by decide +kernel
theorem od_119 : okM 119 = true := by decide +kernel
theorem od_120 : okM 120 = true := by decide +kernel
theorem od_121 : okM 121 = true := by decide +kernel
theorem od_122 : okM 122 = true := by decide +kernel
theorem od_123 : okM 123 = true := by decide +kernel
end OKM
