/-! The checks of some tables. -/
section OKM
theorem od_145 : okM 145 = true := by decide +kernel
theorem od_146 : okM 146 = true := by decide +kernel
theorem od_147 : okM 147 = true := by decide +kernel
theorem od_148 : okM 148 = true := by decide +kernel
theorem od_149 : okM 149 = true := by decide +kernel
theorem od_150 : okM 150 = true := by decide +kernel
theorem od_151 : okM 151 = true := by decide +kernel
theorem od_152 : okM 152 = true := by decide +kernel
theorem od_153 : okM 153 = true := by decide +kernel
theorem od_154 : okM 154 = true := by decide +kernel
theorem od_155 : okM 155 = true := by decide +kernel
theorem od_156 : okM 156 = true := by decide +kernel
theorem od_157 : okM 157 = true := by decide +kernel
theorem od_158 : okM 158 = true := by decide +kernel
theorem od_159 : okM 159 = true := by decide +kernel
theorem od_160 : okM 160 = true := by decide +kernel
theorem od_161 : okM 161 = true := by decide +kernel
theorem od_162 : okM 162 = true := by decide +kernel
theorem od_163 : okM 163 = true := by decide +kernel
theorem od_164 : okM 164 = true := by decide +kernel
theorem od_165 : okM 165 = true := by decide +kernel
end OKM
