/-! The checks of some tables. -/
section OKM
theorem od_192 : OKm 192 := OKm_M (by decide +kernel)
theorem od_193 : OKm 193 := OKm_M (by decide +kernel)
theorem od_194 : OKm 194 := OKm_M (by decide +kernel)
theorem od_195 : OKm 195 := OKm_M (by decide +kernel)
theorem od_196 : OKm 196 := OKm_M (by decide +kernel)
end OKM
