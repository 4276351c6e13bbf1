/-! The checks of some tables. -/
section OKM
theorem od_166 : okM 166 = true := by decide +kernel
theorem od_167 : okM 167 = true := by decide +kernel
theorem od_168 : okM 168 = true := by decide +kernel
theorem od_169 : okM 169 = true := by decide +kernel
theorem od_170 : okM 170 = true := by decide +kernel
theorem od_171 : okM 171 = true := by decide +kernel
theorem od_172 : okM 172 = true := by decide +kernel
theorem od_173 : okM 173 = true := by decide +kernel
theorem od_174 : okM 174 = true := by decide +kernel
theorem od_175 : okM 175 = true := by decide +kernel
theorem od_176 : okM 176 = true := by decide +kernel
theorem od_177 : okM 177 = true := by decide +kernel
theorem od_178 : okM 178 = true := by decide +kernel
theorem od_179 : okM 179 = true := by decide +kernel
theorem od_180 : okM 180 = true := by decide +kernel
theorem od_181 : okM 181 = true := by decide +kernel
theorem od_182 : okM 182 = true := by decide +kernel
theorem od_183 : okM 183 = true := by decide +kernel
theorem od_184 : okM 184 = true := by decide +kernel
theorem od_185 : okM 185 = true := by decide +kernel
theorem od_186 : okM 186 = true := by decide +kernel
theorem od_187 : okM 187 = true := by decide +kernel
theorem od_188 : okM 188 = true := by decide +kernel
theorem od_189 : okM 189 = true := by decide +kernel
theorem od_190 : okM 190 = true := by decide +kernel
theorem od_191 : okM 191 = true := by decide +kernel
end OKM
