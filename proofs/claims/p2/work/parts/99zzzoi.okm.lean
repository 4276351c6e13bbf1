/-! The checks of some tables. -/
section OKM
theorem od_192 : okM 192 = true := by decide +kernel
theorem od_193 : okM 193 = true := by decide +kernel
theorem od_194 : okM 194 = true := by decide +kernel
theorem od_195 : okM 195 = true := by decide +kernel
theorem od_196 : okM 196 = true := by decide +kernel
end OKM
