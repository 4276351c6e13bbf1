/-! Bytes of a number. -/
section BITS
abbrev m8 : Int32 := (Int16.ofInt 255).toInt32
abbrev s8 : Int32 := (Int8.ofInt 8).toInt32 &&& 31
abbrev s16 : Int32 := (Int8.ofInt 16).toInt32 &&& 31
theorem b2 : ∀ n, n < 1025 → (((nI n >>> s8).toInt8.toInt32 &&& m8) <<< s8) ||| ((nI n).toInt8.toInt32 &&& m8) = nI n := by decide +kernel
theorem b3' : ∀ a, a < 129 → ∀ b, b < 128 → (((nI (128 * a + b) >>> s16).toInt8.toInt32 &&& m8) <<< s16) ||| (((nI (128 * a + b) >>> s8).toInt8.toInt32 &&& m8) <<< s8) ||| ((nI (128 * a + b)).toInt8.toInt32 &&& m8) = nI (128 * a + b) := by decide +kernel
theorem b3 (n : Nat) (h : n ≤ 16384) : (((nI n >>> s16).toInt8.toInt32 &&& m8) <<< s16) ||| (((nI n >>> s8).toInt8.toInt32 &&& m8) <<< s8) ||| ((nI n).toInt8.toInt32 &&& m8) = nI n := by
  have := b3' (n / 128) (by omega) (n % 128) (by omega)
  rw [show 128 * (n / 128) + n % 128 = n by omega] at this
  exact this
end BITS
