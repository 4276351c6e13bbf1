/-! The checks of some tables. -/
section OKM
theorem od_124 : okM 124 = true := by decide +kernel
theorem od_125 : okM 125 = true := by decide +kernel
theorem od_126 : okM 126 = true := by decide +kernel
theorem od_127 : okM 127 = true := by decide +kernel
theorem od_128 : okM 128 = true := by decide +kernel
theorem od_129 : okM 129 = true := by decide +kernel
theorem od_130 : okM 130 = true := by decide +kernel
theorem od_131 : okM 131 = true := by decide +kernel
theorem od_132 : okM 132 = true := by decide +kernel
theorem od_133 : okM 133 = true := by decide +kernel
theorem od_134 : okM 134 = true := by decide +kernel
theorem od_135 : okM 135 = true := by decide +kernel
theorem od_136 : okM 136 = true := by decide +kernel
theorem od_137 : okM 137 = true := by decide +kernel
theorem od_138 : okM 138 = true := by decide +kernel
theorem od_139 : okM 139 = true := by decide +kernel
theorem od_140 : okM 140 = true := by decide +kernel
theorem od_141 : okM 141 = true := by decide +kernel
theorem od_142 : okM 142 = true := by decide +kernel
theorem od_143 : okM 143 = true := by decide +kernel
theorem od_144 : okM 144 = true := by decide +kernel
end OKM
