/-! Each command's road within its group. -/
section KROADS
variable {Y : Nat → MethodName × ByteArray} {d : Nat} {σ : kS}
theorem kr_0 (ty : kTY σ) {K : kK} (hK : ∀ r u, K r u → r = none) (hh : kjY kPP (kQQ Y) (d + 8) 177 0 (mjL0 4 [.ref 67]) [] σ K) : kjY kPP (kQQ Y) (d + 9) 162 0 (mjL0 2 [.ref 67, .ref (1000000 + 0)]) [] σ K := by
  have kj : kCm (1000000 + 0) := ⟨0, by decide, rfl⟩
  refine kd_162 ty (j := 0) (n := 39) (by decide) (by decide) ?_
  refine kjZ_y rfl rfl 2 _ _ _ _ ty ?_
  refine (And.intro (Nat.le_of_ble_eq_true rfl) (And.intro (Or.inl ⟨(Nat.le_of_ble_eq_true rfl), (ty.k (by decide) rfl)⟩) (And.intro (Nat.le_of_ble_eq_true rfl) (And.intro (Nat.le_of_ble_eq_true rfl) (kjY_mono ty (fun q_ u1 ty1 xu1 h_ => ?_) (hh))))))
  have q := h_
  intro _ _
  obtain rfl := hK _ _ q
  refine kjZ_y rfl rfl 2 _ _ _ _ ty1 ?_
  refine And.intro rfl (And.intro rfl ?_)
  exact q
theorem kr_1 (ty : kTY σ) {K : kK} (hK : ∀ r u, K r u → r = none) (hh : kjY kPP (kQQ Y) (d + 8) 186 0 (mjL0 4 [.ref 67]) [] σ K) : kjY kPP (kQQ Y) (d + 9) 162 0 (mjL0 2 [.ref 67, .ref (1000000 + 1)]) [] σ K := by
  have kj : kCm (1000000 + 1) := ⟨1, by decide, rfl⟩
  refine kd_162 ty (j := 1) (n := 54) (by decide) (by decide) ?_
  refine kjZ_y rfl rfl 2 _ _ _ _ ty ?_
  refine (And.intro (Nat.le_of_ble_eq_true rfl) (And.intro (Or.inl ⟨(Nat.le_of_ble_eq_true rfl), (ty.k (by decide) rfl)⟩) (And.intro (Nat.le_of_ble_eq_true rfl) (And.intro (Nat.le_of_ble_eq_true rfl) (kjY_mono ty (fun q_ u1 ty1 xu1 h_ => ?_) (hh))))))
  have q := h_
  intro _ _
  obtain rfl := hK _ _ q
  refine kjZ_y rfl rfl 2 _ _ _ _ ty1 ?_
  refine And.intro rfl (And.intro rfl ?_)
  exact q
theorem kr_3 (ty : kTY σ) {K : kK} (hK : ∀ r u, K r u → r = none) (hh : kjY kPP (kQQ Y) (d + 8) 181 0 (mjL0 7 [.ref 67, .ref (1000000 + 3)]) [] σ K) : kjY kPP (kQQ Y) (d + 9) 162 0 (mjL0 2 [.ref 67, .ref (1000000 + 3)]) [] σ K := by
  have kj : kCm (1000000 + 3) := ⟨3, by decide, rfl⟩
  refine kd_162 ty (j := 3) (n := 57) (by decide) (by decide) ?_
  refine kjZ_y rfl rfl 3 _ _ _ _ ty ?_
  refine (And.intro (Nat.le_of_ble_eq_true rfl) (And.intro (Or.inl ⟨(Nat.le_of_ble_eq_true rfl), (ty.k (by decide) rfl)⟩) (And.intro (Nat.le_of_ble_eq_true rfl) (And.intro (Nat.le_of_ble_eq_true rfl) (kjY_mono ty (fun q_ u1 ty1 xu1 h_ => ?_) (hh))))))
  have q := h_
  intro _ _
  obtain rfl := hK _ _ q
  refine kjZ_y rfl rfl 1 _ _ _ _ ty1 ?_
  refine And.intro rfl (And.intro rfl ?_)
  exact q
theorem kr_4 (ty : kTY σ) {K : kK} (hK : ∀ r u, K r u → r = none) (hh : kjY kPP (kQQ Y) (d + 8) 181 0 (mjL0 7 [.ref 67, .ref (1000000 + 4)]) [] σ K) : kjY kPP (kQQ Y) (d + 9) 162 0 (mjL0 2 [.ref 67, .ref (1000000 + 4)]) [] σ K := by
  have kj : kCm (1000000 + 4) := ⟨4, by decide, rfl⟩
  refine kd_162 ty (j := 4) (n := 57) (by decide) (by decide) ?_
  refine kjZ_y rfl rfl 3 _ _ _ _ ty ?_
  refine (And.intro (Nat.le_of_ble_eq_true rfl) (And.intro (Or.inl ⟨(Nat.le_of_ble_eq_true rfl), (ty.k (by decide) rfl)⟩) (And.intro (Nat.le_of_ble_eq_true rfl) (And.intro (Nat.le_of_ble_eq_true rfl) (kjY_mono ty (fun q_ u1 ty1 xu1 h_ => ?_) (hh))))))
  have q := h_
  intro _ _
  obtain rfl := hK _ _ q
  refine kjZ_y rfl rfl 1 _ _ _ _ ty1 ?_
  refine And.intro rfl (And.intro rfl ?_)
  exact q
theorem kr_5 (ty : kTY σ) {K : kK} (hK : ∀ r u, K r u → r = none) (hh : kjY kPP (kQQ Y) (d + 8) 151 0 (mjL0 3 [.ref 59]) [] σ K) : kjY kPP (kQQ Y) (d + 9) 150 0 (mjL0 2 [.ref 59, .ref (1000000 + 5)]) [] σ K := by
  have kj : kCm (1000000 + 5) := ⟨5, by decide, rfl⟩
  refine kd_150 ty (j := 5) (n := 5) (by decide) (by decide) ?_
  refine kjZ_y rfl rfl 2 _ _ _ _ ty ?_
  refine (And.intro (Nat.le_of_ble_eq_true rfl) (And.intro (Or.inl ⟨(Nat.le_of_ble_eq_true rfl), (ty.k (by decide) rfl)⟩) (And.intro (Nat.le_of_ble_eq_true rfl) (And.intro (Nat.le_of_ble_eq_true rfl) (kjY_mono ty (fun q_ u1 ty1 xu1 h_ => ?_) (hh))))))
  have q := h_
  intro _ _
  obtain rfl := hK _ _ q
  refine kjZ_y rfl rfl 2 _ _ _ _ ty1 ?_
  refine And.intro rfl (And.intro rfl ?_)
  exact q
theorem kr_9 (ty : kTY σ) {K : kK} (hK : ∀ r u, K r u → r = none) (hh : kjY kPP (kQQ Y) (d + 8) 152 0 (mjL0 3 [.ref 59]) [] σ K) : kjY kPP (kQQ Y) (d + 9) 150 0 (mjL0 2 [.ref 59, .ref (1000000 + 9)]) [] σ K := by
  have kj : kCm (1000000 + 9) := ⟨9, by decide, rfl⟩
  refine kd_150 ty (j := 9) (n := 8) (by decide) (by decide) ?_
  refine kjZ_y rfl rfl 2 _ _ _ _ ty ?_
  refine (And.intro (Nat.le_of_ble_eq_true rfl) (And.intro (Or.inl ⟨(Nat.le_of_ble_eq_true rfl), (ty.k (by decide) rfl)⟩) (And.intro (Nat.le_of_ble_eq_true rfl) (And.intro (Nat.le_of_ble_eq_true rfl) (kjY_mono ty (fun q_ u1 ty1 xu1 h_ => ?_) (hh))))))
  have q := h_
  intro _ _
  obtain rfl := hK _ _ q
  refine kjZ_y rfl rfl 2 _ _ _ _ ty1 ?_
  refine And.intro rfl (And.intro rfl ?_)
  exact q
theorem kr_10 (ty : kTY σ) {K : kK} (hK : ∀ r u, K r u → r = none) (hh : kjY kPP (kQQ Y) (d + 8) 160 0 (mjL0 6 [.ref 59, .ref (1000000 + 10)]) [] σ K) : kjY kPP (kQQ Y) (d + 9) 150 0 (mjL0 2 [.ref 59, .ref (1000000 + 10)]) [] σ K := by
  have kj : kCm (1000000 + 10) := ⟨10, by decide, rfl⟩
  refine kd_150 ty (j := 10) (n := 55) (by decide) (by decide) ?_
  refine kjZ_y rfl rfl 3 _ _ _ _ ty ?_
  refine (And.intro (Nat.le_of_ble_eq_true rfl) (And.intro (Or.inl ⟨(Nat.le_of_ble_eq_true rfl), (ty.k (by decide) rfl)⟩) (And.intro (Nat.le_of_ble_eq_true rfl) (And.intro (Nat.le_of_ble_eq_true rfl) (kjY_mono ty (fun q_ u1 ty1 xu1 h_ => ?_) (hh))))))
  have q := h_
  intro _ _
  obtain rfl := hK _ _ q
  refine kjZ_y rfl rfl 1 _ _ _ _ ty1 ?_
  refine And.intro rfl (And.intro rfl ?_)
  exact q
theorem kr_11 (ty : kTY σ) {K : kK} (hK : ∀ r u, K r u → r = none) (hh : kjY kPP (kQQ Y) (d + 8) 160 0 (mjL0 6 [.ref 59, .ref (1000000 + 11)]) [] σ K) : kjY kPP (kQQ Y) (d + 9) 150 0 (mjL0 2 [.ref 59, .ref (1000000 + 11)]) [] σ K := by
  have kj : kCm (1000000 + 11) := ⟨11, by decide, rfl⟩
  refine kd_150 ty (j := 11) (n := 55) (by decide) (by decide) ?_
  refine kjZ_y rfl rfl 3 _ _ _ _ ty ?_
  refine (And.intro (Nat.le_of_ble_eq_true rfl) (And.intro (Or.inl ⟨(Nat.le_of_ble_eq_true rfl), (ty.k (by decide) rfl)⟩) (And.intro (Nat.le_of_ble_eq_true rfl) (And.intro (Nat.le_of_ble_eq_true rfl) (kjY_mono ty (fun q_ u1 ty1 xu1 h_ => ?_) (hh))))))
  have q := h_
  intro _ _
  obtain rfl := hK _ _ q
  refine kjZ_y rfl rfl 1 _ _ _ _ ty1 ?_
  refine And.intro rfl (And.intro rfl ?_)
  exact q
theorem kr_12 (ty : kTY σ) {K : kK} (hK : ∀ r u, K r u → r = none) (hh : kjY kPP (kQQ Y) (d + 8) 157 0 (mjL0 3 [.ref 59]) [] σ K) : kjY kPP (kQQ Y) (d + 9) 150 0 (mjL0 2 [.ref 59, .ref (1000000 + 12)]) [] σ K := by
  have kj : kCm (1000000 + 12) := ⟨12, by decide, rfl⟩
  refine kd_150 ty (j := 12) (n := 40) (by decide) (by decide) ?_
  refine kjZ_y rfl rfl 2 _ _ _ _ ty ?_
  refine (And.intro (Nat.le_of_ble_eq_true rfl) (And.intro (Or.inl ⟨(Nat.le_of_ble_eq_true rfl), (ty.k (by decide) rfl)⟩) (And.intro (Nat.le_of_ble_eq_true rfl) (And.intro (Nat.le_of_ble_eq_true rfl) (kjY_mono ty (fun q_ u1 ty1 xu1 h_ => ?_) (hh))))))
  have q := h_
  intro _ _
  obtain rfl := hK _ _ q
  refine kjZ_y rfl rfl 2 _ _ _ _ ty1 ?_
  refine And.intro rfl (And.intro rfl ?_)
  exact q
theorem kr_13 (ty : kTY σ) {K : kK} (hK : ∀ r u, K r u → r = none) (hh : kjY kPP (kQQ Y) (d + 8) 164 0 (mjL0 4 [.ref 67, .ref (1000000 + 13)]) [] σ K) : kjY kPP (kQQ Y) (d + 9) 162 0 (mjL0 2 [.ref 67, .ref (1000000 + 13)]) [] σ K := by
  have kj : kCm (1000000 + 13) := ⟨13, by decide, rfl⟩
  refine kd_162 ty (j := 13) (n := 5) (by decide) (by decide) ?_
  refine kjZ_y rfl rfl 3 _ _ _ _ ty ?_
  refine (And.intro (Nat.le_of_ble_eq_true rfl) (And.intro (Or.inl ⟨(Nat.le_of_ble_eq_true rfl), (ty.k (by decide) rfl)⟩) (And.intro (Nat.le_of_ble_eq_true rfl) (And.intro (Nat.le_of_ble_eq_true rfl) (kjY_mono ty (fun q_ u1 ty1 xu1 h_ => ?_) (hh))))))
  have q := h_
  intro _ _
  obtain rfl := hK _ _ q
  refine kjZ_y rfl rfl 2 _ _ _ _ ty1 ?_
  refine And.intro rfl (And.intro rfl ?_)
  exact q
theorem kr_14 (ty : kTY σ) {K : kK} (hK : ∀ r u, K r u → r = none) (hh : kjY kPP (kQQ Y) (d + 8) 185 0 (mjL0 3 [.ref 67]) [] σ K) : kjY kPP (kQQ Y) (d + 9) 162 0 (mjL0 2 [.ref 67, .ref (1000000 + 14)]) [] σ K := by
  have kj : kCm (1000000 + 14) := ⟨14, by decide, rfl⟩
  refine kd_162 ty (j := 14) (n := 51) (by decide) (by decide) ?_
  refine kjZ_y rfl rfl 2 _ _ _ _ ty ?_
  refine (And.intro (Nat.le_of_ble_eq_true rfl) (And.intro (Or.inl ⟨(Nat.le_of_ble_eq_true rfl), (ty.k (by decide) rfl)⟩) (And.intro (Nat.le_of_ble_eq_true rfl) (And.intro (Nat.le_of_ble_eq_true rfl) (kjY_mono ty (fun q_ u1 ty1 xu1 h_ => ?_) (hh))))))
  have q := h_
  intro _ _
  obtain rfl := hK _ _ q
  refine kjZ_y rfl rfl 2 _ _ _ _ ty1 ?_
  refine And.intro rfl (And.intro rfl ?_)
  exact q
theorem kr_15 (ty : kTY σ) {K : kK} (hK : ∀ r u, K r u → r = none) (hh : kjY kPP (kQQ Y) (d + 8) 164 0 (mjL0 4 [.ref 67, .ref (1000000 + 15)]) [] σ K) : kjY kPP (kQQ Y) (d + 9) 162 0 (mjL0 2 [.ref 67, .ref (1000000 + 15)]) [] σ K := by
  have kj : kCm (1000000 + 15) := ⟨15, by decide, rfl⟩
  refine kd_162 ty (j := 15) (n := 5) (by decide) (by decide) ?_
  refine kjZ_y rfl rfl 3 _ _ _ _ ty ?_
  refine (And.intro (Nat.le_of_ble_eq_true rfl) (And.intro (Or.inl ⟨(Nat.le_of_ble_eq_true rfl), (ty.k (by decide) rfl)⟩) (And.intro (Nat.le_of_ble_eq_true rfl) (And.intro (Nat.le_of_ble_eq_true rfl) (kjY_mono ty (fun q_ u1 ty1 xu1 h_ => ?_) (hh))))))
  have q := h_
  intro _ _
  obtain rfl := hK _ _ q
  refine kjZ_y rfl rfl 2 _ _ _ _ ty1 ?_
  refine And.intro rfl (And.intro rfl ?_)
  exact q
theorem kr_16 (ty : kTY σ) {K : kK} (hK : ∀ r u, K r u → r = none) (hh : kjY kPP (kQQ Y) (d + 8) 179 0 (mjL0 2 [.ref 67]) [] σ K) : kjY kPP (kQQ Y) (d + 9) 162 0 (mjL0 2 [.ref 67, .ref (1000000 + 16)]) [] σ K := by
  have kj : kCm (1000000 + 16) := ⟨16, by decide, rfl⟩
  refine kd_162 ty (j := 16) (n := 42) (by decide) (by decide) ?_
  refine kjZ_y rfl rfl 2 _ _ _ _ ty ?_
  refine (And.intro (Nat.le_of_ble_eq_true rfl) (And.intro (Or.inl ⟨(Nat.le_of_ble_eq_true rfl), (ty.k (by decide) rfl)⟩) (And.intro (Nat.le_of_ble_eq_true rfl) (And.intro (Nat.le_of_ble_eq_true rfl) (kjY_mono ty (fun q_ u1 ty1 xu1 h_ => ?_) (hh))))))
  have q := h_
  intro _ _
  obtain rfl := hK _ _ q
  refine kjZ_y rfl rfl 2 _ _ _ _ ty1 ?_
  refine And.intro rfl (And.intro rfl ?_)
  exact q
theorem kr_17 (ty : kTY σ) {K : kK} (hK : ∀ r u, K r u → r = none) (hh : kjY kPP (kQQ Y) (d + 8) 173 0 (mjL0 1 [.ref 67]) [] σ K) : kjY kPP (kQQ Y) (d + 9) 162 0 (mjL0 2 [.ref 67, .ref (1000000 + 17)]) [] σ K := by
  have kj : kCm (1000000 + 17) := ⟨17, by decide, rfl⟩
  refine kd_162 ty (j := 17) (n := 12) (by decide) (by decide) ?_
  refine kjZ_y rfl rfl 2 _ _ _ _ ty ?_
  refine (And.intro (Nat.le_of_ble_eq_true rfl) (And.intro (Or.inl ⟨(Nat.le_of_ble_eq_true rfl), (ty.k (by decide) rfl)⟩) (And.intro (Nat.le_of_ble_eq_true rfl) (And.intro (Nat.le_of_ble_eq_true rfl) (kjY_mono ty (fun q_ u1 ty1 xu1 h_ => ?_) (hh))))))
  have q := h_
  intro _ _
  obtain rfl := hK _ _ q
  refine kjZ_y rfl rfl 2 _ _ _ _ ty1 ?_
  refine And.intro rfl (And.intro rfl ?_)
  exact q
theorem kr_18 (ty : kTY σ) {K : kK} (hK : ∀ r u, K r u → r = none) (hh : kjY kPP (kQQ Y) (d + 8) 208 0 (mjL0 7 [.ref 71, .int (Int32.ofInt 2)]) [] σ K) : kjY kPP (kQQ Y) (d + 9) 202 0 (mjL0 2 [.ref 71, .ref (1000000 + 18)]) [] σ K := by
  have kj : kCm (1000000 + 18) := ⟨18, by decide, rfl⟩
  refine kd_202 ty (j := 18) (n := 17) (by decide) (by decide) ?_
  refine kjZ_y rfl rfl 3 _ _ _ _ ty ?_
  refine (And.intro (Nat.le_of_ble_eq_true rfl) (And.intro (Or.inl ⟨(Nat.le_of_ble_eq_true rfl), (ty.k (by decide) rfl)⟩) (And.intro (Nat.le_of_ble_eq_true rfl) (And.intro (Nat.le_of_ble_eq_true rfl) (kjY_mono ty (fun q_ u1 ty1 xu1 h_ => ?_) (hh))))))
  have q := h_
  intro _ _
  obtain rfl := hK _ _ q
  refine kjZ_y rfl rfl 2 _ _ _ _ ty1 ?_
  refine And.intro rfl (And.intro rfl ?_)
  exact q
theorem kr_19 (ty : kTY σ) {K : kK} (hK : ∀ r u, K r u → r = none) (hh : kjY kPP (kQQ Y) (d + 8) 205 0 (mjL0 2 [.ref 71, .int (Int32.ofInt 2)]) [] σ K) : kjY kPP (kQQ Y) (d + 9) 202 0 (mjL0 2 [.ref 71, .ref (1000000 + 19)]) [] σ K := by
  have kj : kCm (1000000 + 19) := ⟨19, by decide, rfl⟩
  refine kd_202 ty (j := 19) (n := 21) (by decide) (by decide) ?_
  refine kjZ_y rfl rfl 3 _ _ _ _ ty ?_
  refine (And.intro (Nat.le_of_ble_eq_true rfl) (And.intro (Or.inl ⟨(Nat.le_of_ble_eq_true rfl), (ty.k (by decide) rfl)⟩) (And.intro (Nat.le_of_ble_eq_true rfl) (And.intro (Nat.le_of_ble_eq_true rfl) (kjY_mono ty (fun q_ u1 ty1 xu1 h_ => ?_) (hh))))))
  have q := h_
  intro _ _
  obtain rfl := hK _ _ q
  refine kjZ_y rfl rfl 2 _ _ _ _ ty1 ?_
  refine And.intro rfl (And.intro rfl ?_)
  exact q
theorem kr_20 (ty : kTY σ) {K : kK} (hK : ∀ r u, K r u → r = none) (hh : kjY kPP (kQQ Y) (d + 8) 214 0 (mjL0 1 [.ref 71]) [] σ K) : kjY kPP (kQQ Y) (d + 9) 202 0 (mjL0 2 [.ref 71, .ref (1000000 + 20)]) [] σ K := by
  have kj : kCm (1000000 + 20) := ⟨20, by decide, rfl⟩
  refine kd_202 ty (j := 20) (n := 11) (by decide) (by decide) ?_
  refine kjZ_y rfl rfl 2 _ _ _ _ ty ?_
  refine (And.intro (Nat.le_of_ble_eq_true rfl) (And.intro (Or.inl ⟨(Nat.le_of_ble_eq_true rfl), (ty.k (by decide) rfl)⟩) (And.intro (Nat.le_of_ble_eq_true rfl) (And.intro (Nat.le_of_ble_eq_true rfl) (kjY_mono ty (fun q_ u1 ty1 xu1 h_ => ?_) (hh))))))
  have q := h_
  intro _ _
  obtain rfl := hK _ _ q
  refine kjZ_y rfl rfl 2 _ _ _ _ ty1 ?_
  refine And.intro rfl (And.intro rfl ?_)
  exact q
theorem kr_21 (ty : kTY σ) {K : kK} (hK : ∀ r u, K r u → r = none) (hh : kjY kPP (kQQ Y) (d + 8) 206 0 (mjL0 7 [.ref 71, .int (Int32.ofInt 2), .int (Int32.ofInt 1), .int (Int32.ofInt 1)]) [] σ K) : kjY kPP (kQQ Y) (d + 9) 202 0 (mjL0 2 [.ref 71, .ref (1000000 + 21)]) [] σ K := by
  have kj : kCm (1000000 + 21) := ⟨21, by decide, rfl⟩
  refine kd_202 ty (j := 21) (n := 35) (by decide) (by decide) ?_
  refine kjZ_y rfl rfl 5 _ _ _ _ ty ?_
  refine And.intro ⟨(by assumption), ⟨29, by decide, rfl⟩, Or.inl rfl⟩ (And.intro (fun c => ?_) (fun c => ?_))
  · exact absurd (ac_eq.mp c) (by decide)
  refine kjZ_y rfl rfl 5 _ _ _ _ ty ?_
  refine And.intro ⟨(by assumption), ⟨23, by decide, rfl⟩, Or.inl rfl⟩ (And.intro (fun c => ?_) (fun c => ?_))
  · exact absurd (ac_eq.mp c) (by decide)
  refine kjZ_y rfl rfl 3 _ _ _ _ ty ?_
  refine (And.intro (Nat.le_of_ble_eq_true rfl) (And.intro (Or.inl ⟨(Nat.le_of_ble_eq_true rfl), (ty.k (by decide) rfl)⟩) (And.intro (Nat.le_of_ble_eq_true rfl) (And.intro (Nat.le_of_ble_eq_true rfl) (kjY_mono ty (fun q_ u1 ty1 xu1 h_ => ?_) (hh))))))
  have q := h_
  intro _ _
  obtain rfl := hK _ _ q
  refine kjZ_y rfl rfl 1 _ _ _ _ ty1 ?_
  refine And.intro rfl (And.intro rfl ?_)
  exact q
theorem kr_22 (ty : kTY σ) {K : kK} (hK : ∀ r u, K r u → r = none) (hh : kjY kPP (kQQ Y) (d + 8) 217 0 (mjL0 7 [.ref 71]) [] σ K) : kjY kPP (kQQ Y) (d + 9) 202 0 (mjL0 2 [.ref 71, .ref (1000000 + 22)]) [] σ K := by
  have kj : kCm (1000000 + 22) := ⟨22, by decide, rfl⟩
  refine kd_202 ty (j := 22) (n := 32) (by decide) (by decide) ?_
  refine kjZ_y rfl rfl 2 _ _ _ _ ty ?_
  refine (And.intro (Nat.le_of_ble_eq_true rfl) (And.intro (Or.inl ⟨(Nat.le_of_ble_eq_true rfl), (ty.k (by decide) rfl)⟩) (And.intro (Nat.le_of_ble_eq_true rfl) (And.intro (Nat.le_of_ble_eq_true rfl) (kjY_mono ty (fun q_ u1 ty1 xu1 h_ => ?_) (hh))))))
  have q := h_
  intro _ _
  obtain rfl := hK _ _ q
  refine kjZ_y rfl rfl 2 _ _ _ _ ty1 ?_
  refine And.intro rfl (And.intro rfl ?_)
  exact q
theorem kr_23 (ty : kTY σ) {K : kK} (hK : ∀ r u, K r u → r = none) (hh : kjY kPP (kQQ Y) (d + 8) 206 0 (mjL0 7 [.ref 71, .int (Int32.ofInt 2), .int (Int32.ofInt 1), .int (Int32.ofInt 0)]) [] σ K) : kjY kPP (kQQ Y) (d + 9) 202 0 (mjL0 2 [.ref 71, .ref (1000000 + 23)]) [] σ K := by
  have kj : kCm (1000000 + 23) := ⟨23, by decide, rfl⟩
  refine kd_202 ty (j := 23) (n := 35) (by decide) (by decide) ?_
  refine kjZ_y rfl rfl 5 _ _ _ _ ty ?_
  refine And.intro ⟨(by assumption), ⟨29, by decide, rfl⟩, Or.inl rfl⟩ (And.intro (fun c => ?_) (fun c => ?_))
  · exact absurd (ac_eq.mp c) (by decide)
  refine kjZ_y rfl rfl 5 _ _ _ _ ty ?_
  refine And.intro ⟨(by assumption), ⟨23, by decide, rfl⟩, Or.inl rfl⟩ (And.intro (fun c => ?_) (fun c => ?_))
  rotate_left
  · exact absurd (ac_eq.mpr rfl) c
  refine kjZ_y rfl rfl 2 _ _ _ _ ty ?_
  refine (And.intro (Nat.le_of_ble_eq_true rfl) (And.intro (Or.inl ⟨(Nat.le_of_ble_eq_true rfl), (ty.k (by decide) rfl)⟩) (And.intro (Nat.le_of_ble_eq_true rfl) (And.intro (Nat.le_of_ble_eq_true rfl) (kjY_mono ty (fun q_ u1 ty1 xu1 h_ => ?_) (hh))))))
  have q := h_
  intro _ _
  obtain rfl := hK _ _ q
  refine kjZ_y rfl rfl 1 _ _ _ _ ty1 ?_
  refine And.intro rfl (And.intro rfl ?_)
  exact q
theorem kr_24 (ty : kTY σ) {K : kK} (hK : ∀ r u, K r u → r = none) (hh : kjY kPP (kQQ Y) (d + 8) 204 0 (mjL0 3 [.ref 71, .int (Int32.ofInt 2)]) [] σ K) : kjY kPP (kQQ Y) (d + 9) 202 0 (mjL0 2 [.ref 71, .ref (1000000 + 24)]) [] σ K := by
  have kj : kCm (1000000 + 24) := ⟨24, by decide, rfl⟩
  refine kd_202 ty (j := 24) (n := 25) (by decide) (by decide) ?_
  refine kjZ_y rfl rfl 3 _ _ _ _ ty ?_
  refine (And.intro (Nat.le_of_ble_eq_true rfl) (And.intro (Or.inl ⟨(Nat.le_of_ble_eq_true rfl), (ty.k (by decide) rfl)⟩) (And.intro (Nat.le_of_ble_eq_true rfl) (And.intro (Nat.le_of_ble_eq_true rfl) (kjY_mono ty (fun q_ u1 ty1 xu1 h_ => ?_) (hh))))))
  have q := h_
  intro _ _
  obtain rfl := hK _ _ q
  refine kjZ_y rfl rfl 2 _ _ _ _ ty1 ?_
  refine And.intro rfl (And.intro rfl ?_)
  exact q
theorem kr_25 (ty : kTY σ) {K : kK} (hK : ∀ r u, K r u → r = none) (hh : kjY kPP (kQQ Y) (d + 8) 215 0 (mjL0 3 [.ref 71]) [] σ K) : kjY kPP (kQQ Y) (d + 9) 202 0 (mjL0 2 [.ref 71, .ref (1000000 + 25)]) [] σ K := by
  have kj : kCm (1000000 + 25) := ⟨25, by decide, rfl⟩
  refine kd_202 ty (j := 25) (n := 14) (by decide) (by decide) ?_
  refine kjZ_y rfl rfl 2 _ _ _ _ ty ?_
  refine (And.intro (Nat.le_of_ble_eq_true rfl) (And.intro (Or.inl ⟨(Nat.le_of_ble_eq_true rfl), (ty.k (by decide) rfl)⟩) (And.intro (Nat.le_of_ble_eq_true rfl) (And.intro (Nat.le_of_ble_eq_true rfl) (kjY_mono ty (fun q_ u1 ty1 xu1 h_ => ?_) (hh))))))
  have q := h_
  intro _ _
  obtain rfl := hK _ _ q
  refine kjZ_y rfl rfl 2 _ _ _ _ ty1 ?_
  refine And.intro rfl (And.intro rfl ?_)
  exact q
theorem kr_26 (ty : kTY σ) {K : kK} (hK : ∀ r u, K r u → r = none) (hh : kjY kPP (kQQ Y) (d + 8) 210 0 (mjL0 5 [.ref 71]) [] σ K) : kjY kPP (kQQ Y) (d + 9) 202 0 (mjL0 2 [.ref 71, .ref (1000000 + 26)]) [] σ K := by
  have kj : kCm (1000000 + 26) := ⟨26, by decide, rfl⟩
  refine kd_202 ty (j := 26) (n := 5) (by decide) (by decide) ?_
  refine kjZ_y rfl rfl 2 _ _ _ _ ty ?_
  refine (And.intro (Nat.le_of_ble_eq_true rfl) (And.intro (Or.inl ⟨(Nat.le_of_ble_eq_true rfl), (ty.k (by decide) rfl)⟩) (And.intro (Nat.le_of_ble_eq_true rfl) (And.intro (Nat.le_of_ble_eq_true rfl) (kjY_mono ty (fun q_ u1 ty1 xu1 h_ => ?_) (hh))))))
  have q := h_
  intro _ _
  obtain rfl := hK _ _ q
  refine kjZ_y rfl rfl 2 _ _ _ _ ty1 ?_
  refine And.intro rfl (And.intro rfl ?_)
  exact q
theorem kr_27 (ty : kTY σ) {K : kK} (hK : ∀ r u, K r u → r = none) (hh : kjY kPP (kQQ Y) (d + 8) 211 0 (mjL0 4 [.ref 71]) [] σ K) : kjY kPP (kQQ Y) (d + 9) 202 0 (mjL0 2 [.ref 71, .ref (1000000 + 27)]) [] σ K := by
  have kj : kCm (1000000 + 27) := ⟨27, by decide, rfl⟩
  refine kd_202 ty (j := 27) (n := 8) (by decide) (by decide) ?_
  refine kjZ_y rfl rfl 2 _ _ _ _ ty ?_
  refine (And.intro (Nat.le_of_ble_eq_true rfl) (And.intro (Or.inl ⟨(Nat.le_of_ble_eq_true rfl), (ty.k (by decide) rfl)⟩) (And.intro (Nat.le_of_ble_eq_true rfl) (And.intro (Nat.le_of_ble_eq_true rfl) (kjY_mono ty (fun q_ u1 ty1 xu1 h_ => ?_) (hh))))))
  have q := h_
  intro _ _
  obtain rfl := hK _ _ q
  refine kjZ_y rfl rfl 2 _ _ _ _ ty1 ?_
  refine And.intro rfl (And.intro rfl ?_)
  exact q
theorem kr_28 (ty : kTY σ) {K : kK} (hK : ∀ r u, K r u → r = none) (hh : kjY kPP (kQQ Y) (d + 8) 216 0 (mjL0 1 [.ref 71]) [] σ K) : kjY kPP (kQQ Y) (d + 9) 202 0 (mjL0 2 [.ref 71, .ref (1000000 + 28)]) [] σ K := by
  have kj : kCm (1000000 + 28) := ⟨28, by decide, rfl⟩
  refine kd_202 ty (j := 28) (n := 29) (by decide) (by decide) ?_
  refine kjZ_y rfl rfl 2 _ _ _ _ ty ?_
  refine (And.intro (Nat.le_of_ble_eq_true rfl) (And.intro (Or.inl ⟨(Nat.le_of_ble_eq_true rfl), (ty.k (by decide) rfl)⟩) (And.intro (Nat.le_of_ble_eq_true rfl) (And.intro (Nat.le_of_ble_eq_true rfl) (kjY_mono ty (fun q_ u1 ty1 xu1 h_ => ?_) (hh))))))
  have q := h_
  intro _ _
  obtain rfl := hK _ _ q
  refine kjZ_y rfl rfl 2 _ _ _ _ ty1 ?_
  refine And.intro rfl (And.intro rfl ?_)
  exact q
theorem kr_29 (ty : kTY σ) {K : kK} (hK : ∀ r u, K r u → r = none) (hh : kjY kPP (kQQ Y) (d + 8) 206 0 (mjL0 7 [.ref 71, .int (Int32.ofInt 2), .int (Int32.ofInt 0), .int (Int32.ofInt 1)]) [] σ K) : kjY kPP (kQQ Y) (d + 9) 202 0 (mjL0 2 [.ref 71, .ref (1000000 + 29)]) [] σ K := by
  have kj : kCm (1000000 + 29) := ⟨29, by decide, rfl⟩
  refine kd_202 ty (j := 29) (n := 35) (by decide) (by decide) ?_
  refine kjZ_y rfl rfl 5 _ _ _ _ ty ?_
  refine And.intro ⟨(by assumption), ⟨29, by decide, rfl⟩, Or.inl rfl⟩ (And.intro (fun c => ?_) (fun c => ?_))
  rotate_left
  · exact absurd (ac_eq.mpr rfl) c
  refine kjZ_y rfl rfl 4 _ _ _ _ ty ?_
  refine And.intro ⟨(by assumption), ⟨23, by decide, rfl⟩, Or.inl rfl⟩ (And.intro (fun c => ?_) (fun c => ?_))
  · exact absurd (ac_eq.mp c) (by decide)
  refine kjZ_y rfl rfl 3 _ _ _ _ ty ?_
  refine (And.intro (Nat.le_of_ble_eq_true rfl) (And.intro (Or.inl ⟨(Nat.le_of_ble_eq_true rfl), (ty.k (by decide) rfl)⟩) (And.intro (Nat.le_of_ble_eq_true rfl) (And.intro (Nat.le_of_ble_eq_true rfl) (kjY_mono ty (fun q_ u1 ty1 xu1 h_ => ?_) (hh))))))
  have q := h_
  intro _ _
  obtain rfl := hK _ _ q
  refine kjZ_y rfl rfl 1 _ _ _ _ ty1 ?_
  refine And.intro rfl (And.intro rfl ?_)
  exact q
theorem kr_30 (ty : kTY σ) {K : kK} (hK : ∀ r u, K r u → r = none) (hh : kjY kPP (kQQ Y) (d + 8) 181 0 (mjL0 7 [.ref 67, .ref (1000000 + 30)]) [] σ K) : kjY kPP (kQQ Y) (d + 9) 162 0 (mjL0 2 [.ref 67, .ref (1000000 + 30)]) [] σ K := by
  have kj : kCm (1000000 + 30) := ⟨30, by decide, rfl⟩
  refine kd_162 ty (j := 30) (n := 57) (by decide) (by decide) ?_
  refine kjZ_y rfl rfl 3 _ _ _ _ ty ?_
  refine (And.intro (Nat.le_of_ble_eq_true rfl) (And.intro (Or.inl ⟨(Nat.le_of_ble_eq_true rfl), (ty.k (by decide) rfl)⟩) (And.intro (Nat.le_of_ble_eq_true rfl) (And.intro (Nat.le_of_ble_eq_true rfl) (kjY_mono ty (fun q_ u1 ty1 xu1 h_ => ?_) (hh))))))
  have q := h_
  intro _ _
  obtain rfl := hK _ _ q
  refine kjZ_y rfl rfl 1 _ _ _ _ ty1 ?_
  refine And.intro rfl (And.intro rfl ?_)
  exact q
theorem kr_31 (ty : kTY σ) {K : kK} (hK : ∀ r u, K r u → r = none) (hh : kjY kPP (kQQ Y) (d + 8) 181 0 (mjL0 7 [.ref 67, .ref (1000000 + 31)]) [] σ K) : kjY kPP (kQQ Y) (d + 9) 162 0 (mjL0 2 [.ref 67, .ref (1000000 + 31)]) [] σ K := by
  have kj : kCm (1000000 + 31) := ⟨31, by decide, rfl⟩
  refine kd_162 ty (j := 31) (n := 57) (by decide) (by decide) ?_
  refine kjZ_y rfl rfl 3 _ _ _ _ ty ?_
  refine (And.intro (Nat.le_of_ble_eq_true rfl) (And.intro (Or.inl ⟨(Nat.le_of_ble_eq_true rfl), (ty.k (by decide) rfl)⟩) (And.intro (Nat.le_of_ble_eq_true rfl) (And.intro (Nat.le_of_ble_eq_true rfl) (kjY_mono ty (fun q_ u1 ty1 xu1 h_ => ?_) (hh))))))
  have q := h_
  intro _ _
  obtain rfl := hK _ _ q
  refine kjZ_y rfl rfl 1 _ _ _ _ ty1 ?_
  refine And.intro rfl (And.intro rfl ?_)
  exact q
theorem kr_32 (ty : kTY σ) {K : kK} (hK : ∀ r u, K r u → r = none) (hh : kjY kPP (kQQ Y) (d + 8) 156 0 (mjL0 5 [.ref 59]) [] σ K) : kjY kPP (kQQ Y) (d + 9) 150 0 (mjL0 2 [.ref 59, .ref (1000000 + 32)]) [] σ K := by
  have kj : kCm (1000000 + 32) := ⟨32, by decide, rfl⟩
  refine kd_150 ty (j := 32) (n := 29) (by decide) (by decide) ?_
  refine kjZ_y rfl rfl 2 _ _ _ _ ty ?_
  refine (And.intro (Nat.le_of_ble_eq_true rfl) (And.intro (Or.inl ⟨(Nat.le_of_ble_eq_true rfl), (ty.k (by decide) rfl)⟩) (And.intro (Nat.le_of_ble_eq_true rfl) (And.intro (Nat.le_of_ble_eq_true rfl) (kjY_mono ty (fun q_ u1 ty1 xu1 h_ => ?_) (hh))))))
  have q := h_
  intro _ _
  obtain rfl := hK _ _ q
  refine kjZ_y rfl rfl 2 _ _ _ _ ty1 ?_
  refine And.intro rfl (And.intro rfl ?_)
  exact q
theorem kr_33 (ty : kTY σ) {K : kK} (hK : ∀ r u, K r u → r = none) (hh : kjY kPP (kQQ Y) (d + 8) 195 0 (mjL0 3 [.ref 70]) [] σ K) : kjY kPP (kQQ Y) (d + 9) 188 0 (mjL0 2 [.ref 70, .ref (1000000 + 33)]) [] σ K := by
  have kj : kCm (1000000 + 33) := ⟨33, by decide, rfl⟩
  refine kd_188 ty (j := 33) (n := 37) (by decide) (by decide) ?_
  refine kjZ_y rfl rfl 2 _ _ _ _ ty ?_
  refine (And.intro (Nat.le_of_ble_eq_true rfl) (And.intro (Or.inl ⟨(Nat.le_of_ble_eq_true rfl), (ty.k (by decide) rfl)⟩) (And.intro (Nat.le_of_ble_eq_true rfl) (And.intro (Nat.le_of_ble_eq_true rfl) (kjY_mono ty (fun q_ u1 ty1 xu1 h_ => ?_) (hh))))))
  have q := h_
  intro _ _
  obtain rfl := hK _ _ q
  refine kjZ_y rfl rfl 2 _ _ _ _ ty1 ?_
  refine And.intro rfl (And.intro rfl ?_)
  exact q
theorem kr_34 (ty : kTY σ) {K : kK} (hK : ∀ r u, K r u → r = none) (hh : kjY kPP (kQQ Y) (d + 8) 197 0 (mjL0 6 [.ref 70]) [] σ K) : kjY kPP (kQQ Y) (d + 9) 188 0 (mjL0 2 [.ref 70, .ref (1000000 + 34)]) [] σ K := by
  have kj : kCm (1000000 + 34) := ⟨34, by decide, rfl⟩
  refine kd_188 ty (j := 34) (n := 43) (by decide) (by decide) ?_
  refine kjZ_y rfl rfl 2 _ _ _ _ ty ?_
  refine (And.intro (Nat.le_of_ble_eq_true rfl) (And.intro (Or.inl ⟨(Nat.le_of_ble_eq_true rfl), (ty.k (by decide) rfl)⟩) (And.intro (Nat.le_of_ble_eq_true rfl) (And.intro (Nat.le_of_ble_eq_true rfl) (kjY_mono ty (fun q_ u1 ty1 xu1 h_ => ?_) (hh))))))
  have q := h_
  intro _ _
  obtain rfl := hK _ _ q
  refine kjZ_y rfl rfl 2 _ _ _ _ ty1 ?_
  refine And.intro rfl (And.intro rfl ?_)
  exact q
theorem kr_35 (ty : kTY σ) {K : kK} (hK : ∀ r u, K r u → r = none) (hh : kjY kPP (kQQ Y) (d + 8) 193 0 (mjL0 2 [.ref 70]) [] σ K) : kjY kPP (kQQ Y) (d + 9) 188 0 (mjL0 2 [.ref 70, .ref (1000000 + 35)]) [] σ K := by
  have kj : kCm (1000000 + 35) := ⟨35, by decide, rfl⟩
  refine kd_188 ty (j := 35) (n := 61) (by decide) (by decide) ?_
  refine kjZ_y rfl rfl 2 _ _ _ _ ty ?_
  refine (And.intro (Nat.le_of_ble_eq_true rfl) (And.intro (Or.inl ⟨(Nat.le_of_ble_eq_true rfl), (ty.k (by decide) rfl)⟩) (And.intro (Nat.le_of_ble_eq_true rfl) (And.intro (Nat.le_of_ble_eq_true rfl) (kjY_mono ty (fun q_ u1 ty1 xu1 h_ => ?_) (hh))))))
  have q := h_
  intro _ _
  obtain rfl := hK _ _ q
  refine kjZ_y rfl rfl 1 _ _ _ _ ty1 ?_
  refine And.intro rfl (And.intro rfl ?_)
  exact q
theorem kr_36 (ty : kTY σ) {K : kK} (hK : ∀ r u, K r u → r = none) (hh : kjY kPP (kQQ Y) (d + 8) 200 0 (mjL0 10 [.ref 70, .int (Int32.ofInt 1)]) [] σ K) : kjY kPP (kQQ Y) (d + 9) 188 0 (mjL0 2 [.ref 70, .ref (1000000 + 36)]) [] σ K := by
  have kj : kCm (1000000 + 36) := ⟨36, by decide, rfl⟩
  refine kd_188 ty (j := 36) (n := 52) (by decide) (by decide) ?_
  refine kjZ_y rfl rfl 4 _ _ _ _ ty ?_
  refine And.intro ⟨(by assumption), ⟨36, by decide, rfl⟩, Or.inr rfl⟩ (And.intro (fun c => ?_) (fun c => ?_))
  · exact absurd rfl (ac_ne.mp c)
  refine kjZ_y rfl rfl 3 _ _ _ _ ty ?_
  refine (And.intro (Nat.le_of_ble_eq_true rfl) (And.intro (Or.inl ⟨(Nat.le_of_ble_eq_true rfl), (ty.k (by decide) rfl)⟩) (And.intro (Nat.le_of_ble_eq_true rfl) (And.intro (Nat.le_of_ble_eq_true rfl) (kjY_mono ty (fun q_ u1 ty1 xu1 h_ => ?_) (hh))))))
  have q := h_
  intro _ _
  obtain rfl := hK _ _ q
  refine kjZ_y rfl rfl 2 _ _ _ _ ty1 ?_
  refine And.intro rfl (And.intro rfl ?_)
  exact q
theorem kr_37 (ty : kTY σ) {K : kK} (hK : ∀ r u, K r u → r = none) (hh : kjY kPP (kQQ Y) (d + 8) 192 0 (mjL0 7 [.ref 70, .int (Int32.ofInt 1)]) [] σ K) : kjY kPP (kQQ Y) (d + 9) 188 0 (mjL0 2 [.ref 70, .ref (1000000 + 37)]) [] σ K := by
  have kj : kCm (1000000 + 37) := ⟨37, by decide, rfl⟩
  refine kd_188 ty (j := 37) (n := 25) (by decide) (by decide) ?_
  refine kjZ_y rfl rfl 4 _ _ _ _ ty ?_
  refine And.intro ⟨(by assumption), ⟨37, by decide, rfl⟩, Or.inr rfl⟩ (And.intro (fun c => ?_) (fun c => ?_))
  · exact absurd rfl (ac_ne.mp c)
  refine kjZ_y rfl rfl 3 _ _ _ _ ty ?_
  refine (And.intro (Nat.le_of_ble_eq_true rfl) (And.intro (Or.inl ⟨(Nat.le_of_ble_eq_true rfl), (ty.k (by decide) rfl)⟩) (And.intro (Nat.le_of_ble_eq_true rfl) (And.intro (Nat.le_of_ble_eq_true rfl) (kjY_mono ty (fun q_ u1 ty1 xu1 h_ => ?_) (hh))))))
  have q := h_
  intro _ _
  obtain rfl := hK _ _ q
  refine kjZ_y rfl rfl 2 _ _ _ _ ty1 ?_
  refine And.intro rfl (And.intro rfl ?_)
  exact q
theorem kr_38 (ty : kTY σ) {K : kK} (hK : ∀ r u, K r u → r = none) (hh : kjY kPP (kQQ Y) (d + 8) 191 0 (mjL0 6 [.ref 70, .int (Int32.ofInt 1), .int (Int32.ofInt 0)]) [] σ K) : kjY kPP (kQQ Y) (d + 9) 188 0 (mjL0 2 [.ref 70, .ref (1000000 + 38)]) [] σ K := by
  have kj : kCm (1000000 + 38) := ⟨38, by decide, rfl⟩
  refine kd_188 ty (j := 38) (n := 5) (by decide) (by decide) ?_
  refine kjZ_y rfl rfl 5 _ _ _ _ ty ?_
  refine And.intro ⟨(by assumption), ⟨39, by decide, rfl⟩, Or.inr rfl⟩ (And.intro (fun c => ?_) (fun c => ?_))
  rotate_left
  · exact absurd (ac_ne.mpr (by decide)) c
  refine kjZ_y rfl rfl 2 _ _ _ _ ty ?_
  refine (And.intro (Nat.le_of_ble_eq_true rfl) (And.intro (Or.inl ⟨(Nat.le_of_ble_eq_true rfl), (ty.k (by decide) rfl)⟩) (And.intro (Nat.le_of_ble_eq_true rfl) (And.intro (Nat.le_of_ble_eq_true rfl) (kjY_mono ty (fun q_ u1 ty1 xu1 h_ => ?_) (hh))))))
  have q := h_
  intro _ _
  obtain rfl := hK _ _ q
  refine kjZ_y rfl rfl 2 _ _ _ _ ty1 ?_
  refine And.intro rfl (And.intro rfl ?_)
  exact q
theorem kr_39 (ty : kTY σ) {K : kK} (hK : ∀ r u, K r u → r = none) (hh : kjY kPP (kQQ Y) (d + 8) 191 0 (mjL0 6 [.ref 70, .int (Int32.ofInt 1), .int (Int32.ofInt 1)]) [] σ K) : kjY kPP (kQQ Y) (d + 9) 188 0 (mjL0 2 [.ref 70, .ref (1000000 + 39)]) [] σ K := by
  have kj : kCm (1000000 + 39) := ⟨39, by decide, rfl⟩
  refine kd_188 ty (j := 39) (n := 5) (by decide) (by decide) ?_
  refine kjZ_y rfl rfl 5 _ _ _ _ ty ?_
  refine And.intro ⟨(by assumption), ⟨39, by decide, rfl⟩, Or.inr rfl⟩ (And.intro (fun c => ?_) (fun c => ?_))
  · exact absurd rfl (ac_ne.mp c)
  refine kjZ_y rfl rfl 3 _ _ _ _ ty ?_
  refine (And.intro (Nat.le_of_ble_eq_true rfl) (And.intro (Or.inl ⟨(Nat.le_of_ble_eq_true rfl), (ty.k (by decide) rfl)⟩) (And.intro (Nat.le_of_ble_eq_true rfl) (And.intro (Nat.le_of_ble_eq_true rfl) (kjY_mono ty (fun q_ u1 ty1 xu1 h_ => ?_) (hh))))))
  have q := h_
  intro _ _
  obtain rfl := hK _ _ q
  refine kjZ_y rfl rfl 2 _ _ _ _ ty1 ?_
  refine And.intro rfl (And.intro rfl ?_)
  exact q
theorem kr_40 (ty : kTY σ) {K : kK} (hK : ∀ r u, K r u → r = none) (hh : kjY kPP (kQQ Y) (d + 8) 194 0 (mjL0 3 [.ref 70]) [] σ K) : kjY kPP (kQQ Y) (d + 9) 188 0 (mjL0 2 [.ref 70, .ref (1000000 + 40)]) [] σ K := by
  have kj : kCm (1000000 + 40) := ⟨40, by decide, rfl⟩
  refine kd_188 ty (j := 40) (n := 34) (by decide) (by decide) ?_
  refine kjZ_y rfl rfl 2 _ _ _ _ ty ?_
  refine (And.intro (Nat.le_of_ble_eq_true rfl) (And.intro (Or.inl ⟨(Nat.le_of_ble_eq_true rfl), (ty.k (by decide) rfl)⟩) (And.intro (Nat.le_of_ble_eq_true rfl) (And.intro (Nat.le_of_ble_eq_true rfl) (kjY_mono ty (fun q_ u1 ty1 xu1 h_ => ?_) (hh))))))
  have q := h_
  intro _ _
  obtain rfl := hK _ _ q
  refine kjZ_y rfl rfl 2 _ _ _ _ ty1 ?_
  refine And.intro rfl (And.intro rfl ?_)
  exact q
theorem kr_41 (ty : kTY σ) {K : kK} (hK : ∀ r u, K r u → r = none) (hh : kjY kPP (kQQ Y) (d + 8) 198 0 (mjL0 11 [.ref 70]) [] σ K) : kjY kPP (kQQ Y) (d + 9) 188 0 (mjL0 2 [.ref 70, .ref (1000000 + 41)]) [] σ K := by
  have kj : kCm (1000000 + 41) := ⟨41, by decide, rfl⟩
  refine kd_188 ty (j := 41) (n := 46) (by decide) (by decide) ?_
  refine kjZ_y rfl rfl 2 _ _ _ _ ty ?_
  refine (And.intro (Nat.le_of_ble_eq_true rfl) (And.intro (Or.inl ⟨(Nat.le_of_ble_eq_true rfl), (ty.k (by decide) rfl)⟩) (And.intro (Nat.le_of_ble_eq_true rfl) (And.intro (Nat.le_of_ble_eq_true rfl) (kjY_mono ty (fun q_ u1 ty1 xu1 h_ => ?_) (hh))))))
  have q := h_
  intro _ _
  obtain rfl := hK _ _ q
  refine kjZ_y rfl rfl 2 _ _ _ _ ty1 ?_
  refine And.intro rfl (And.intro rfl ?_)
  exact q
theorem kr_42 (ty : kTY σ) {K : kK} (hK : ∀ r u, K r u → r = none) (hh : kjY kPP (kQQ Y) (d + 8) 196 0 (mjL0 5 [.ref 70]) [] σ K) : kjY kPP (kQQ Y) (d + 9) 188 0 (mjL0 2 [.ref 70, .ref (1000000 + 42)]) [] σ K := by
  have kj : kCm (1000000 + 42) := ⟨42, by decide, rfl⟩
  refine kd_188 ty (j := 42) (n := 40) (by decide) (by decide) ?_
  refine kjZ_y rfl rfl 2 _ _ _ _ ty ?_
  refine (And.intro (Nat.le_of_ble_eq_true rfl) (And.intro (Or.inl ⟨(Nat.le_of_ble_eq_true rfl), (ty.k (by decide) rfl)⟩) (And.intro (Nat.le_of_ble_eq_true rfl) (And.intro (Nat.le_of_ble_eq_true rfl) (kjY_mono ty (fun q_ u1 ty1 xu1 h_ => ?_) (hh))))))
  have q := h_
  intro _ _
  obtain rfl := hK _ _ q
  refine kjZ_y rfl rfl 2 _ _ _ _ ty1 ?_
  refine And.intro rfl (And.intro rfl ?_)
  exact q
theorem kr_43 (ty : kTY σ) {K : kK} (hK : ∀ r u, K r u → r = none) (hh : kjY kPP (kQQ Y) (d + 8) 199 0 (mjL0 4 [.ref 70]) [] σ K) : kjY kPP (kQQ Y) (d + 9) 188 0 (mjL0 2 [.ref 70, .ref (1000000 + 43)]) [] σ K := by
  have kj : kCm (1000000 + 43) := ⟨43, by decide, rfl⟩
  refine kd_188 ty (j := 43) (n := 49) (by decide) (by decide) ?_
  refine kjZ_y rfl rfl 2 _ _ _ _ ty ?_
  refine (And.intro (Nat.le_of_ble_eq_true rfl) (And.intro (Or.inl ⟨(Nat.le_of_ble_eq_true rfl), (ty.k (by decide) rfl)⟩) (And.intro (Nat.le_of_ble_eq_true rfl) (And.intro (Nat.le_of_ble_eq_true rfl) (kjY_mono ty (fun q_ u1 ty1 xu1 h_ => ?_) (hh))))))
  have q := h_
  intro _ _
  obtain rfl := hK _ _ q
  refine kjZ_y rfl rfl 2 _ _ _ _ ty1 ?_
  refine And.intro rfl (And.intro rfl ?_)
  exact q
theorem kr_44 (ty : kTY σ) {K : kK} (hK : ∀ r u, K r u → r = none) (hh : kjY kPP (kQQ Y) (d + 8) 165 0 (mjL0 2 [.ref 67]) [] σ K) : kjY kPP (kQQ Y) (d + 9) 162 0 (mjL0 2 [.ref 67, .ref (1000000 + 44)]) [] σ K := by
  have kj : kCm (1000000 + 44) := ⟨44, by decide, rfl⟩
  refine kd_162 ty (j := 44) (n := 27) (by decide) (by decide) ?_
  refine kjZ_y rfl rfl 2 _ _ _ _ ty ?_
  refine (And.intro (Nat.le_of_ble_eq_true rfl) (And.intro (Or.inl ⟨(Nat.le_of_ble_eq_true rfl), (ty.k (by decide) rfl)⟩) (And.intro (Nat.le_of_ble_eq_true rfl) (And.intro (Nat.le_of_ble_eq_true rfl) (kjY_mono ty (fun q_ u1 ty1 xu1 h_ => ?_) (hh))))))
  have q := h_
  intro _ _
  obtain rfl := hK _ _ q
  refine kjZ_y rfl rfl 2 _ _ _ _ ty1 ?_
  refine And.intro rfl (And.intro rfl ?_)
  exact q
theorem kr_45 (ty : kTY σ) {K : kK} (hK : ∀ r u, K r u → r = none) (hh : kjY kPP (kQQ Y) (d + 8) 176 0 (mjL0 6 [.ref 67, .int (Int32.ofInt 0)]) [] σ K) : kjY kPP (kQQ Y) (d + 9) 162 0 (mjL0 2 [.ref 67, .ref (1000000 + 45)]) [] σ K := by
  have kj : kCm (1000000 + 45) := ⟨45, by decide, rfl⟩
  refine kd_162 ty (j := 45) (n := 30) (by decide) (by decide) ?_
  refine kjZ_y rfl rfl 4 _ _ _ _ ty ?_
  refine And.intro ⟨(by assumption), ⟨46, by decide, rfl⟩, Or.inr rfl⟩ (And.intro (fun c => ?_) (fun c => ?_))
  rotate_left
  · exact absurd (ac_ne.mpr (by decide)) c
  refine kjZ_y rfl rfl 2 _ _ _ _ ty ?_
  refine (And.intro (Nat.le_of_ble_eq_true rfl) (And.intro (Or.inl ⟨(Nat.le_of_ble_eq_true rfl), (ty.k (by decide) rfl)⟩) (And.intro (Nat.le_of_ble_eq_true rfl) (And.intro (Nat.le_of_ble_eq_true rfl) (kjY_mono ty (fun q_ u1 ty1 xu1 h_ => ?_) (hh))))))
  have q := h_
  intro _ _
  obtain rfl := hK _ _ q
  refine kjZ_y rfl rfl 2 _ _ _ _ ty1 ?_
  refine And.intro rfl (And.intro rfl ?_)
  exact q
theorem kr_46 (ty : kTY σ) {K : kK} (hK : ∀ r u, K r u → r = none) (hh : kjY kPP (kQQ Y) (d + 8) 176 0 (mjL0 6 [.ref 67, .int (Int32.ofInt 1)]) [] σ K) : kjY kPP (kQQ Y) (d + 9) 162 0 (mjL0 2 [.ref 67, .ref (1000000 + 46)]) [] σ K := by
  have kj : kCm (1000000 + 46) := ⟨46, by decide, rfl⟩
  refine kd_162 ty (j := 46) (n := 30) (by decide) (by decide) ?_
  refine kjZ_y rfl rfl 4 _ _ _ _ ty ?_
  refine And.intro ⟨(by assumption), ⟨46, by decide, rfl⟩, Or.inr rfl⟩ (And.intro (fun c => ?_) (fun c => ?_))
  · exact absurd rfl (ac_ne.mp c)
  refine kjZ_y rfl rfl 3 _ _ _ _ ty ?_
  refine (And.intro (Nat.le_of_ble_eq_true rfl) (And.intro (Or.inl ⟨(Nat.le_of_ble_eq_true rfl), (ty.k (by decide) rfl)⟩) (And.intro (Nat.le_of_ble_eq_true rfl) (And.intro (Nat.le_of_ble_eq_true rfl) (kjY_mono ty (fun q_ u1 ty1 xu1 h_ => ?_) (hh))))))
  have q := h_
  intro _ _
  obtain rfl := hK _ _ q
  refine kjZ_y rfl rfl 2 _ _ _ _ ty1 ?_
  refine And.intro rfl (And.intro rfl ?_)
  exact q
theorem kr_48 (ty : kTY σ) {K : kK} (hK : ∀ r u, K r u → r = none) (hh : kjY kPP (kQQ Y) (d + 8) 158 0 (mjL0 4 [.ref 59]) [] σ K) : kjY kPP (kQQ Y) (d + 9) 150 0 (mjL0 2 [.ref 59, .ref (1000000 + 48)]) [] σ K := by
  have kj : kCm (1000000 + 48) := ⟨48, by decide, rfl⟩
  refine kd_150 ty (j := 48) (n := 43) (by decide) (by decide) ?_
  refine kjZ_y rfl rfl 2 _ _ _ _ ty ?_
  refine (And.intro (Nat.le_of_ble_eq_true rfl) (And.intro (Or.inl ⟨(Nat.le_of_ble_eq_true rfl), (ty.k (by decide) rfl)⟩) (And.intro (Nat.le_of_ble_eq_true rfl) (And.intro (Nat.le_of_ble_eq_true rfl) (kjY_mono ty (fun q_ u1 ty1 xu1 h_ => ?_) (hh))))))
  have q := h_
  intro _ _
  obtain rfl := hK _ _ q
  refine kjZ_y rfl rfl 2 _ _ _ _ ty1 ?_
  refine And.intro rfl (And.intro rfl ?_)
  exact q
theorem kr_49 (ty : kTY σ) {K : kK} (hK : ∀ r u, K r u → r = none) (hh : kjY kPP (kQQ Y) (d + 8) 160 0 (mjL0 6 [.ref 59, .ref (1000000 + 49)]) [] σ K) : kjY kPP (kQQ Y) (d + 9) 150 0 (mjL0 2 [.ref 59, .ref (1000000 + 49)]) [] σ K := by
  have kj : kCm (1000000 + 49) := ⟨49, by decide, rfl⟩
  refine kd_150 ty (j := 49) (n := 55) (by decide) (by decide) ?_
  refine kjZ_y rfl rfl 3 _ _ _ _ ty ?_
  refine (And.intro (Nat.le_of_ble_eq_true rfl) (And.intro (Or.inl ⟨(Nat.le_of_ble_eq_true rfl), (ty.k (by decide) rfl)⟩) (And.intro (Nat.le_of_ble_eq_true rfl) (And.intro (Nat.le_of_ble_eq_true rfl) (kjY_mono ty (fun q_ u1 ty1 xu1 h_ => ?_) (hh))))))
  have q := h_
  intro _ _
  obtain rfl := hK _ _ q
  refine kjZ_y rfl rfl 1 _ _ _ _ ty1 ?_
  refine And.intro rfl (And.intro rfl ?_)
  exact q
theorem kr_50 (ty : kTY σ) {K : kK} (hK : ∀ r u, K r u → r = none) (hh : kjY kPP (kQQ Y) (d + 8) 160 0 (mjL0 6 [.ref 59, .ref (1000000 + 50)]) [] σ K) : kjY kPP (kQQ Y) (d + 9) 150 0 (mjL0 2 [.ref 59, .ref (1000000 + 50)]) [] σ K := by
  have kj : kCm (1000000 + 50) := ⟨50, by decide, rfl⟩
  refine kd_150 ty (j := 50) (n := 55) (by decide) (by decide) ?_
  refine kjZ_y rfl rfl 3 _ _ _ _ ty ?_
  refine (And.intro (Nat.le_of_ble_eq_true rfl) (And.intro (Or.inl ⟨(Nat.le_of_ble_eq_true rfl), (ty.k (by decide) rfl)⟩) (And.intro (Nat.le_of_ble_eq_true rfl) (And.intro (Nat.le_of_ble_eq_true rfl) (kjY_mono ty (fun q_ u1 ty1 xu1 h_ => ?_) (hh))))))
  have q := h_
  intro _ _
  obtain rfl := hK _ _ q
  refine kjZ_y rfl rfl 1 _ _ _ _ ty1 ?_
  refine And.intro rfl (And.intro rfl ?_)
  exact q
theorem kr_52 (ty : kTY σ) {K : kK} (hK : ∀ r u, K r u → r = none) (hh : kjY kPP (kQQ Y) (d + 8) 175 0 (mjL0 2 [.ref 67, .int (Int32.ofInt 0)]) [] σ K) : kjY kPP (kQQ Y) (d + 9) 162 0 (mjL0 2 [.ref 67, .ref (1000000 + 52)]) [] σ K := by
  have kj : kCm (1000000 + 52) := ⟨52, by decide, rfl⟩
  refine kd_162 ty (j := 52) (n := 18) (by decide) (by decide) ?_
  refine kjZ_y rfl rfl 4 _ _ _ _ ty ?_
  refine And.intro ⟨(by assumption), ⟨68, by decide, rfl⟩, Or.inr rfl⟩ (And.intro (fun c => ?_) (fun c => ?_))
  rotate_left
  · exact absurd (ac_ne.mpr (by decide)) c
  refine kjZ_y rfl rfl 2 _ _ _ _ ty ?_
  refine (And.intro (Nat.le_of_ble_eq_true rfl) (And.intro (Or.inl ⟨(Nat.le_of_ble_eq_true rfl), (ty.k (by decide) rfl)⟩) (And.intro (Nat.le_of_ble_eq_true rfl) (And.intro (Nat.le_of_ble_eq_true rfl) (kjY_mono ty (fun q_ u1 ty1 xu1 h_ => ?_) (hh))))))
  have q := h_
  intro _ _
  obtain rfl := hK _ _ q
  refine kjZ_y rfl rfl 2 _ _ _ _ ty1 ?_
  refine And.intro rfl (And.intro rfl ?_)
  exact q
theorem kr_53 (ty : kTY σ) {K : kK} (hK : ∀ r u, K r u → r = none) (hh : kjY kPP (kQQ Y) (d + 8) 159 0 (mjL0 5 [.ref 59, .int (Int32.ofInt 0)]) [] σ K) : kjY kPP (kQQ Y) (d + 9) 150 0 (mjL0 2 [.ref 59, .ref (1000000 + 53)]) [] σ K := by
  have kj : kCm (1000000 + 53) := ⟨53, by decide, rfl⟩
  refine kd_150 ty (j := 53) (n := 46) (by decide) (by decide) ?_
  refine kjZ_y rfl rfl 4 _ _ _ _ ty ?_
  refine And.intro ⟨(by assumption), ⟨84, by decide, rfl⟩, Or.inr rfl⟩ (And.intro (fun c => ?_) (fun c => ?_))
  rotate_left
  · exact absurd (ac_ne.mpr (by decide)) c
  refine kjZ_y rfl rfl 2 _ _ _ _ ty ?_
  refine (And.intro (Nat.le_of_ble_eq_true rfl) (And.intro (Or.inl ⟨(Nat.le_of_ble_eq_true rfl), (ty.k (by decide) rfl)⟩) (And.intro (Nat.le_of_ble_eq_true rfl) (And.intro (Nat.le_of_ble_eq_true rfl) (kjY_mono ty (fun q_ u1 ty1 xu1 h_ => ?_) (hh))))))
  have q := h_
  intro _ _
  obtain rfl := hK _ _ q
  refine kjZ_y rfl rfl 2 _ _ _ _ ty1 ?_
  refine And.intro rfl (And.intro rfl ?_)
  exact q
theorem kr_56 (ty : kTY σ) {K : kK} (hK : ∀ r u, K r u → r = none) (hh : kjY kPP (kQQ Y) (d + 8) 154 0 (mjL0 5 [.ref 59, .int (Int32.ofInt 0)]) [] σ K) : kjY kPP (kQQ Y) (d + 9) 150 0 (mjL0 2 [.ref 59, .ref (1000000 + 56)]) [] σ K := by
  have kj : kCm (1000000 + 56) := ⟨56, by decide, rfl⟩
  refine kd_150 ty (j := 56) (n := 20) (by decide) (by decide) ?_
  refine kjZ_y rfl rfl 4 _ _ _ _ ty ?_
  refine And.intro ⟨(by assumption), ⟨57, by decide, rfl⟩, Or.inr rfl⟩ (And.intro (fun c => ?_) (fun c => ?_))
  rotate_left
  · exact absurd (ac_ne.mpr (by decide)) c
  refine kjZ_y rfl rfl 2 _ _ _ _ ty ?_
  refine (And.intro (Nat.le_of_ble_eq_true rfl) (And.intro (Or.inl ⟨(Nat.le_of_ble_eq_true rfl), (ty.k (by decide) rfl)⟩) (And.intro (Nat.le_of_ble_eq_true rfl) (And.intro (Nat.le_of_ble_eq_true rfl) (kjY_mono ty (fun q_ u1 ty1 xu1 h_ => ?_) (hh))))))
  have q := h_
  intro _ _
  obtain rfl := hK _ _ q
  refine kjZ_y rfl rfl 2 _ _ _ _ ty1 ?_
  refine And.intro rfl (And.intro rfl ?_)
  exact q
theorem kr_57 (ty : kTY σ) {K : kK} (hK : ∀ r u, K r u → r = none) (hh : kjY kPP (kQQ Y) (d + 8) 154 0 (mjL0 5 [.ref 59, .int (Int32.ofInt 1)]) [] σ K) : kjY kPP (kQQ Y) (d + 9) 150 0 (mjL0 2 [.ref 59, .ref (1000000 + 57)]) [] σ K := by
  have kj : kCm (1000000 + 57) := ⟨57, by decide, rfl⟩
  refine kd_150 ty (j := 57) (n := 20) (by decide) (by decide) ?_
  refine kjZ_y rfl rfl 4 _ _ _ _ ty ?_
  refine And.intro ⟨(by assumption), ⟨57, by decide, rfl⟩, Or.inr rfl⟩ (And.intro (fun c => ?_) (fun c => ?_))
  · exact absurd rfl (ac_ne.mp c)
  refine kjZ_y rfl rfl 3 _ _ _ _ ty ?_
  refine (And.intro (Nat.le_of_ble_eq_true rfl) (And.intro (Or.inl ⟨(Nat.le_of_ble_eq_true rfl), (ty.k (by decide) rfl)⟩) (And.intro (Nat.le_of_ble_eq_true rfl) (And.intro (Nat.le_of_ble_eq_true rfl) (kjY_mono ty (fun q_ u1 ty1 xu1 h_ => ?_) (hh))))))
  have q := h_
  intro _ _
  obtain rfl := hK _ _ q
  refine kjZ_y rfl rfl 2 _ _ _ _ ty1 ?_
  refine And.intro rfl (And.intro rfl ?_)
  exact q
theorem kr_58 (ty : kTY σ) {K : kK} (hK : ∀ r u, K r u → r = none) (hh : kjY kPP (kQQ Y) (d + 8) 192 0 (mjL0 7 [.ref 70, .int (Int32.ofInt 0)]) [] σ K) : kjY kPP (kQQ Y) (d + 9) 188 0 (mjL0 2 [.ref 70, .ref (1000000 + 58)]) [] σ K := by
  have kj : kCm (1000000 + 58) := ⟨58, by decide, rfl⟩
  refine kd_188 ty (j := 58) (n := 25) (by decide) (by decide) ?_
  refine kjZ_y rfl rfl 4 _ _ _ _ ty ?_
  refine And.intro ⟨(by assumption), ⟨37, by decide, rfl⟩, Or.inr rfl⟩ (And.intro (fun c => ?_) (fun c => ?_))
  rotate_left
  · exact absurd (ac_ne.mpr (by decide)) c
  refine kjZ_y rfl rfl 2 _ _ _ _ ty ?_
  refine (And.intro (Nat.le_of_ble_eq_true rfl) (And.intro (Or.inl ⟨(Nat.le_of_ble_eq_true rfl), (ty.k (by decide) rfl)⟩) (And.intro (Nat.le_of_ble_eq_true rfl) (And.intro (Nat.le_of_ble_eq_true rfl) (kjY_mono ty (fun q_ u1 ty1 xu1 h_ => ?_) (hh))))))
  have q := h_
  intro _ _
  obtain rfl := hK _ _ q
  refine kjZ_y rfl rfl 2 _ _ _ _ ty1 ?_
  refine And.intro rfl (And.intro rfl ?_)
  exact q
theorem kr_59 (ty : kTY σ) {K : kK} (hK : ∀ r u, K r u → r = none) (hh : kjY kPP (kQQ Y) (d + 8) 200 0 (mjL0 10 [.ref 70, .int (Int32.ofInt 0)]) [] σ K) : kjY kPP (kQQ Y) (d + 9) 188 0 (mjL0 2 [.ref 70, .ref (1000000 + 59)]) [] σ K := by
  have kj : kCm (1000000 + 59) := ⟨59, by decide, rfl⟩
  refine kd_188 ty (j := 59) (n := 52) (by decide) (by decide) ?_
  refine kjZ_y rfl rfl 4 _ _ _ _ ty ?_
  refine And.intro ⟨(by assumption), ⟨36, by decide, rfl⟩, Or.inr rfl⟩ (And.intro (fun c => ?_) (fun c => ?_))
  rotate_left
  · exact absurd (ac_ne.mpr (by decide)) c
  refine kjZ_y rfl rfl 2 _ _ _ _ ty ?_
  refine (And.intro (Nat.le_of_ble_eq_true rfl) (And.intro (Or.inl ⟨(Nat.le_of_ble_eq_true rfl), (ty.k (by decide) rfl)⟩) (And.intro (Nat.le_of_ble_eq_true rfl) (And.intro (Nat.le_of_ble_eq_true rfl) (kjY_mono ty (fun q_ u1 ty1 xu1 h_ => ?_) (hh))))))
  have q := h_
  intro _ _
  obtain rfl := hK _ _ q
  refine kjZ_y rfl rfl 2 _ _ _ _ ty1 ?_
  refine And.intro rfl (And.intro rfl ?_)
  exact q
theorem kr_60 (ty : kTY σ) {K : kK} (hK : ∀ r u, K r u → r = none) (hh : kjY kPP (kQQ Y) (d + 8) 191 0 (mjL0 6 [.ref 70, .int (Int32.ofInt 0), .int (Int32.ofInt 0)]) [] σ K) : kjY kPP (kQQ Y) (d + 9) 188 0 (mjL0 2 [.ref 70, .ref (1000000 + 60)]) [] σ K := by
  have kj : kCm (1000000 + 60) := ⟨60, by decide, rfl⟩
  refine kd_188 ty (j := 60) (n := 15) (by decide) (by decide) ?_
  refine kjZ_y rfl rfl 5 _ _ _ _ ty ?_
  refine And.intro ⟨(by assumption), ⟨61, by decide, rfl⟩, Or.inr rfl⟩ (And.intro (fun c => ?_) (fun c => ?_))
  rotate_left
  · exact absurd (ac_ne.mpr (by decide)) c
  refine kjZ_y rfl rfl 2 _ _ _ _ ty ?_
  refine (And.intro (Nat.le_of_ble_eq_true rfl) (And.intro (Or.inl ⟨(Nat.le_of_ble_eq_true rfl), (ty.k (by decide) rfl)⟩) (And.intro (Nat.le_of_ble_eq_true rfl) (And.intro (Nat.le_of_ble_eq_true rfl) (kjY_mono ty (fun q_ u1 ty1 xu1 h_ => ?_) (hh))))))
  have q := h_
  intro _ _
  obtain rfl := hK _ _ q
  refine kjZ_y rfl rfl 2 _ _ _ _ ty1 ?_
  refine And.intro rfl (And.intro rfl ?_)
  exact q
theorem kr_61 (ty : kTY σ) {K : kK} (hK : ∀ r u, K r u → r = none) (hh : kjY kPP (kQQ Y) (d + 8) 191 0 (mjL0 6 [.ref 70, .int (Int32.ofInt 0), .int (Int32.ofInt 1)]) [] σ K) : kjY kPP (kQQ Y) (d + 9) 188 0 (mjL0 2 [.ref 70, .ref (1000000 + 61)]) [] σ K := by
  have kj : kCm (1000000 + 61) := ⟨61, by decide, rfl⟩
  refine kd_188 ty (j := 61) (n := 15) (by decide) (by decide) ?_
  refine kjZ_y rfl rfl 5 _ _ _ _ ty ?_
  refine And.intro ⟨(by assumption), ⟨61, by decide, rfl⟩, Or.inr rfl⟩ (And.intro (fun c => ?_) (fun c => ?_))
  · exact absurd rfl (ac_ne.mp c)
  refine kjZ_y rfl rfl 3 _ _ _ _ ty ?_
  refine (And.intro (Nat.le_of_ble_eq_true rfl) (And.intro (Or.inl ⟨(Nat.le_of_ble_eq_true rfl), (ty.k (by decide) rfl)⟩) (And.intro (Nat.le_of_ble_eq_true rfl) (And.intro (Nat.le_of_ble_eq_true rfl) (kjY_mono ty (fun q_ u1 ty1 xu1 h_ => ?_) (hh))))))
  have q := h_
  intro _ _
  obtain rfl := hK _ _ q
  refine kjZ_y rfl rfl 2 _ _ _ _ ty1 ?_
  refine And.intro rfl (And.intro rfl ?_)
  exact q
theorem kr_62 (ty : kTY σ) {K : kK} (hK : ∀ r u, K r u → r = none) (hh : kjY kPP (kQQ Y) (d + 8) 219 0 (mjL0 5 [.ref 71]) [] σ K) : kjY kPP (kQQ Y) (d + 9) 203 0 (mjL0 2 [.ref 71, .ref (1000000 + 62)]) [] σ K := by
  have kj : kCm (1000000 + 62) := ⟨62, by decide, rfl⟩
  refine kd_203 ty (j := 62) (n := 5) (by decide) (by decide) ?_
  refine kjZ_y rfl rfl 2 _ _ _ _ ty ?_
  refine (And.intro (Nat.le_of_ble_eq_true rfl) (And.intro (Or.inl ⟨(Nat.le_of_ble_eq_true rfl), (ty.k (by decide) rfl)⟩) (And.intro (Nat.le_of_ble_eq_true rfl) (And.intro (Nat.le_of_ble_eq_true rfl) (kjY_mono ty (fun q_ u1 ty1 xu1 h_ => ?_) (hh))))))
  have q := h_
  intro _ _
  obtain rfl := hK _ _ q
  refine kjZ_y rfl rfl 2 _ _ _ _ ty1 ?_
  refine And.intro rfl (And.intro rfl ?_)
  exact q
theorem kr_63 (ty : kTY σ) {K : kK} (hK : ∀ r u, K r u → r = none) (hh : kjY kPP (kQQ Y) (d + 8) 204 0 (mjL0 3 [.ref 71, .int (Int32.ofInt 3)]) [] σ K) : kjY kPP (kQQ Y) (d + 9) 203 0 (mjL0 2 [.ref 71, .ref (1000000 + 63)]) [] σ K := by
  have kj : kCm (1000000 + 63) := ⟨63, by decide, rfl⟩
  refine kd_203 ty (j := 63) (n := 19) (by decide) (by decide) ?_
  refine kjZ_y rfl rfl 3 _ _ _ _ ty ?_
  refine (And.intro (Nat.le_of_ble_eq_true rfl) (And.intro (Or.inl ⟨(Nat.le_of_ble_eq_true rfl), (ty.k (by decide) rfl)⟩) (And.intro (Nat.le_of_ble_eq_true rfl) (And.intro (Nat.le_of_ble_eq_true rfl) (kjY_mono ty (fun q_ u1 ty1 xu1 h_ => ?_) (hh))))))
  have q := h_
  intro _ _
  obtain rfl := hK _ _ q
  refine kjZ_y rfl rfl 2 _ _ _ _ ty1 ?_
  refine And.intro rfl (And.intro rfl ?_)
  exact q
theorem kr_64 (ty : kTY σ) {K : kK} (hK : ∀ r u, K r u → r = none) (hh : kjY kPP (kQQ Y) (d + 8) 223 0 (mjL0 3 [.ref 71, .ref (1000000 + 64)]) [] σ K) : kjY kPP (kQQ Y) (d + 9) 203 0 (mjL0 2 [.ref 71, .ref (1000000 + 64)]) [] σ K := by
  have kj : kCm (1000000 + 64) := ⟨64, by decide, rfl⟩
  refine kd_203 ty (j := 64) (n := 35) (by decide) (by decide) ?_
  refine kjZ_y rfl rfl 3 _ _ _ _ ty ?_
  refine (And.intro (Nat.le_of_ble_eq_true rfl) (And.intro (Or.inl ⟨(Nat.le_of_ble_eq_true rfl), (ty.k (by decide) rfl)⟩) (And.intro (Nat.le_of_ble_eq_true rfl) (And.intro (Nat.le_of_ble_eq_true rfl) (kjY_mono ty (fun q_ u1 ty1 xu1 h_ => ?_) (hh))))))
  have q := h_
  intro _ _
  obtain rfl := hK _ _ q
  refine kjZ_y rfl rfl 2 _ _ _ _ ty1 ?_
  refine And.intro rfl (And.intro rfl ?_)
  exact q
theorem kr_65 (ty : kTY σ) {K : kK} (hK : ∀ r u, K r u → r = none) (hh : kjY kPP (kQQ Y) (d + 8) 224 0 (mjL0 5 [.ref 71, .ref (1000000 + 65)]) [] σ K) : kjY kPP (kQQ Y) (d + 9) 203 0 (mjL0 2 [.ref 71, .ref (1000000 + 65)]) [] σ K := by
  have kj : kCm (1000000 + 65) := ⟨65, by decide, rfl⟩
  refine kd_203 ty (j := 65) (n := 39) (by decide) (by decide) ?_
  refine kjZ_y rfl rfl 3 _ _ _ _ ty ?_
  refine (And.intro (Nat.le_of_ble_eq_true rfl) (And.intro (Or.inl ⟨(Nat.le_of_ble_eq_true rfl), (ty.k (by decide) rfl)⟩) (And.intro (Nat.le_of_ble_eq_true rfl) (And.intro (Nat.le_of_ble_eq_true rfl) (kjY_mono ty (fun q_ u1 ty1 xu1 h_ => ?_) (hh))))))
  have q := h_
  intro _ _
  obtain rfl := hK _ _ q
  refine kjZ_y rfl rfl 1 _ _ _ _ ty1 ?_
  refine And.intro rfl (And.intro rfl ?_)
  exact q
theorem kr_66 (ty : kTY σ) {K : kK} (hK : ∀ r u, K r u → r = none) (hh : kjY kPP (kQQ Y) (d + 8) 172 0 (mjL0 6 [.ref 67]) [] σ K) : kjY kPP (kQQ Y) (d + 9) 162 0 (mjL0 2 [.ref 67, .ref (1000000 + 66)]) [] σ K := by
  have kj : kCm (1000000 + 66) := ⟨66, by decide, rfl⟩
  refine kd_162 ty (j := 66) (n := 9) (by decide) (by decide) ?_
  refine kjZ_y rfl rfl 2 _ _ _ _ ty ?_
  refine (And.intro (Nat.le_of_ble_eq_true rfl) (And.intro (Or.inl ⟨(Nat.le_of_ble_eq_true rfl), (ty.k (by decide) rfl)⟩) (And.intro (Nat.le_of_ble_eq_true rfl) (And.intro (Nat.le_of_ble_eq_true rfl) (kjY_mono ty (fun q_ u1 ty1 xu1 h_ => ?_) (hh))))))
  have q := h_
  intro _ _
  obtain rfl := hK _ _ q
  refine kjZ_y rfl rfl 2 _ _ _ _ ty1 ?_
  refine And.intro rfl (And.intro rfl ?_)
  exact q
theorem kr_67 (ty : kTY σ) {K : kK} (hK : ∀ r u, K r u → r = none) (hh : kjY kPP (kQQ Y) (d + 8) 184 0 (mjL0 7 [.ref 67]) [] σ K) : kjY kPP (kQQ Y) (d + 9) 162 0 (mjL0 2 [.ref 67, .ref (1000000 + 67)]) [] σ K := by
  have kj : kCm (1000000 + 67) := ⟨67, by decide, rfl⟩
  refine kd_162 ty (j := 67) (n := 48) (by decide) (by decide) ?_
  refine kjZ_y rfl rfl 2 _ _ _ _ ty ?_
  refine (And.intro (Nat.le_of_ble_eq_true rfl) (And.intro (Or.inl ⟨(Nat.le_of_ble_eq_true rfl), (ty.k (by decide) rfl)⟩) (And.intro (Nat.le_of_ble_eq_true rfl) (And.intro (Nat.le_of_ble_eq_true rfl) (kjY_mono ty (fun q_ u1 ty1 xu1 h_ => ?_) (hh))))))
  have q := h_
  intro _ _
  obtain rfl := hK _ _ q
  refine kjZ_y rfl rfl 2 _ _ _ _ ty1 ?_
  refine And.intro rfl (And.intro rfl ?_)
  exact q
theorem kr_68 (ty : kTY σ) {K : kK} (hK : ∀ r u, K r u → r = none) (hh : kjY kPP (kQQ Y) (d + 8) 175 0 (mjL0 2 [.ref 67, .int (Int32.ofInt 1)]) [] σ K) : kjY kPP (kQQ Y) (d + 9) 162 0 (mjL0 2 [.ref 67, .ref (1000000 + 68)]) [] σ K := by
  have kj : kCm (1000000 + 68) := ⟨68, by decide, rfl⟩
  refine kd_162 ty (j := 68) (n := 18) (by decide) (by decide) ?_
  refine kjZ_y rfl rfl 4 _ _ _ _ ty ?_
  refine And.intro ⟨(by assumption), ⟨68, by decide, rfl⟩, Or.inr rfl⟩ (And.intro (fun c => ?_) (fun c => ?_))
  · exact absurd rfl (ac_ne.mp c)
  refine kjZ_y rfl rfl 3 _ _ _ _ ty ?_
  refine (And.intro (Nat.le_of_ble_eq_true rfl) (And.intro (Or.inl ⟨(Nat.le_of_ble_eq_true rfl), (ty.k (by decide) rfl)⟩) (And.intro (Nat.le_of_ble_eq_true rfl) (And.intro (Nat.le_of_ble_eq_true rfl) (kjY_mono ty (fun q_ u1 ty1 xu1 h_ => ?_) (hh))))))
  have q := h_
  intro _ _
  obtain rfl := hK _ _ q
  refine kjZ_y rfl rfl 2 _ _ _ _ ty1 ?_
  refine And.intro rfl (And.intro rfl ?_)
  exact q
theorem kr_69 (ty : kTY σ) {K : kK} (hK : ∀ r u, K r u → r = none) (hh : kjY kPP (kQQ Y) (d + 8) 174 0 (mjL0 2 [.ref 67]) [] σ K) : kjY kPP (kQQ Y) (d + 9) 162 0 (mjL0 2 [.ref 67, .ref (1000000 + 69)]) [] σ K := by
  have kj : kCm (1000000 + 69) := ⟨69, by decide, rfl⟩
  refine kd_162 ty (j := 69) (n := 15) (by decide) (by decide) ?_
  refine kjZ_y rfl rfl 2 _ _ _ _ ty ?_
  refine (And.intro (Nat.le_of_ble_eq_true rfl) (And.intro (Or.inl ⟨(Nat.le_of_ble_eq_true rfl), (ty.k (by decide) rfl)⟩) (And.intro (Nat.le_of_ble_eq_true rfl) (And.intro (Nat.le_of_ble_eq_true rfl) (kjY_mono ty (fun q_ u1 ty1 xu1 h_ => ?_) (hh))))))
  have q := h_
  intro _ _
  obtain rfl := hK _ _ q
  refine kjZ_y rfl rfl 2 _ _ _ _ ty1 ?_
  refine And.intro rfl (And.intro rfl ?_)
  exact q
theorem kr_70 (ty : kTY σ) {K : kK} (hK : ∀ r u, K r u → r = none) (hh : kjY kPP (kQQ Y) (d + 8) 180 0 (mjL0 6 [.ref 67]) [] σ K) : kjY kPP (kQQ Y) (d + 9) 162 0 (mjL0 2 [.ref 67, .ref (1000000 + 70)]) [] σ K := by
  have kj : kCm (1000000 + 70) := ⟨70, by decide, rfl⟩
  refine kd_162 ty (j := 70) (n := 45) (by decide) (by decide) ?_
  refine kjZ_y rfl rfl 2 _ _ _ _ ty ?_
  refine (And.intro (Nat.le_of_ble_eq_true rfl) (And.intro (Or.inl ⟨(Nat.le_of_ble_eq_true rfl), (ty.k (by decide) rfl)⟩) (And.intro (Nat.le_of_ble_eq_true rfl) (And.intro (Nat.le_of_ble_eq_true rfl) (kjY_mono ty (fun q_ u1 ty1 xu1 h_ => ?_) (hh))))))
  have q := h_
  intro _ _
  obtain rfl := hK _ _ q
  refine kjZ_y rfl rfl 2 _ _ _ _ ty1 ?_
  refine And.intro rfl (And.intro rfl ?_)
  exact q
theorem kr_71 (ty : kTY σ) {K : kK} (hK : ∀ r u, K r u → r = none) (hh : kjY kPP (kQQ Y) (d + 8) 223 0 (mjL0 3 [.ref 71, .ref (1000000 + 71)]) [] σ K) : kjY kPP (kQQ Y) (d + 9) 203 0 (mjL0 2 [.ref 71, .ref (1000000 + 71)]) [] σ K := by
  have kj : kCm (1000000 + 71) := ⟨71, by decide, rfl⟩
  refine kd_203 ty (j := 71) (n := 35) (by decide) (by decide) ?_
  refine kjZ_y rfl rfl 3 _ _ _ _ ty ?_
  refine (And.intro (Nat.le_of_ble_eq_true rfl) (And.intro (Or.inl ⟨(Nat.le_of_ble_eq_true rfl), (ty.k (by decide) rfl)⟩) (And.intro (Nat.le_of_ble_eq_true rfl) (And.intro (Nat.le_of_ble_eq_true rfl) (kjY_mono ty (fun q_ u1 ty1 xu1 h_ => ?_) (hh))))))
  have q := h_
  intro _ _
  obtain rfl := hK _ _ q
  refine kjZ_y rfl rfl 2 _ _ _ _ ty1 ?_
  refine And.intro rfl (And.intro rfl ?_)
  exact q
theorem kr_72 (ty : kTY σ) {K : kK} (hK : ∀ r u, K r u → r = none) (hh : kjY kPP (kQQ Y) (d + 8) 224 0 (mjL0 5 [.ref 71, .ref (1000000 + 72)]) [] σ K) : kjY kPP (kQQ Y) (d + 9) 203 0 (mjL0 2 [.ref 71, .ref (1000000 + 72)]) [] σ K := by
  have kj : kCm (1000000 + 72) := ⟨72, by decide, rfl⟩
  refine kd_203 ty (j := 72) (n := 39) (by decide) (by decide) ?_
  refine kjZ_y rfl rfl 3 _ _ _ _ ty ?_
  refine (And.intro (Nat.le_of_ble_eq_true rfl) (And.intro (Or.inl ⟨(Nat.le_of_ble_eq_true rfl), (ty.k (by decide) rfl)⟩) (And.intro (Nat.le_of_ble_eq_true rfl) (And.intro (Nat.le_of_ble_eq_true rfl) (kjY_mono ty (fun q_ u1 ty1 xu1 h_ => ?_) (hh))))))
  have q := h_
  intro _ _
  obtain rfl := hK _ _ q
  refine kjZ_y rfl rfl 1 _ _ _ _ ty1 ?_
  refine And.intro rfl (And.intro rfl ?_)
  exact q
theorem kr_73 (ty : kTY σ) {K : kK} (hK : ∀ r u, K r u → r = none) (hh : kjY kPP (kQQ Y) (d + 8) 205 0 (mjL0 2 [.ref 71, .int (Int32.ofInt 3)]) [] σ K) : kjY kPP (kQQ Y) (d + 9) 203 0 (mjL0 2 [.ref 71, .ref (1000000 + 73)]) [] σ K := by
  have kj : kCm (1000000 + 73) := ⟨73, by decide, rfl⟩
  refine kd_203 ty (j := 73) (n := 12) (by decide) (by decide) ?_
  refine kjZ_y rfl rfl 3 _ _ _ _ ty ?_
  refine (And.intro (Nat.le_of_ble_eq_true rfl) (And.intro (Or.inl ⟨(Nat.le_of_ble_eq_true rfl), (ty.k (by decide) rfl)⟩) (And.intro (Nat.le_of_ble_eq_true rfl) (And.intro (Nat.le_of_ble_eq_true rfl) (kjY_mono ty (fun q_ u1 ty1 xu1 h_ => ?_) (hh))))))
  have q := h_
  intro _ _
  obtain rfl := hK _ _ q
  refine kjZ_y rfl rfl 2 _ _ _ _ ty1 ?_
  refine And.intro rfl (And.intro rfl ?_)
  exact q
theorem kr_74 (ty : kTY σ) {K : kK} (hK : ∀ r u, K r u → r = none) (hh : kjY kPP (kQQ Y) (d + 8) 206 0 (mjL0 7 [.ref 71, .int (Int32.ofInt 3), .int (Int32.ofInt 1), .int (Int32.ofInt 0)]) [] σ K) : kjY kPP (kQQ Y) (d + 9) 203 0 (mjL0 2 [.ref 71, .ref (1000000 + 74)]) [] σ K := by
  have kj : kCm (1000000 + 74) := ⟨74, by decide, rfl⟩
  refine kd_203 ty (j := 74) (n := 23) (by decide) (by decide) ?_
  refine kjZ_y rfl rfl 5 _ _ _ _ ty ?_
  refine (And.intro (Nat.le_of_ble_eq_true rfl) (And.intro (Or.inl ⟨(Nat.le_of_ble_eq_true rfl), (ty.k (by decide) rfl)⟩) (And.intro (Nat.le_of_ble_eq_true rfl) (And.intro (Nat.le_of_ble_eq_true rfl) (kjY_mono ty (fun q_ u1 ty1 xu1 h_ => ?_) (hh))))))
  have q := h_
  intro _ _
  obtain rfl := hK _ _ q
  refine kjZ_y rfl rfl 2 _ _ _ _ ty1 ?_
  refine And.intro rfl (And.intro rfl ?_)
  exact q
theorem kr_75 (ty : kTY σ) {K : kK} (hK : ∀ r u, K r u → r = none) (hh : kjY kPP (kQQ Y) (d + 8) 220 0 (mjL0 3 [.ref 71]) [] σ K) : kjY kPP (kQQ Y) (d + 9) 203 0 (mjL0 2 [.ref 71, .ref (1000000 + 75)]) [] σ K := by
  have kj : kCm (1000000 + 75) := ⟨75, by decide, rfl⟩
  refine kd_203 ty (j := 75) (n := 16) (by decide) (by decide) ?_
  refine kjZ_y rfl rfl 2 _ _ _ _ ty ?_
  refine (And.intro (Nat.le_of_ble_eq_true rfl) (And.intro (Or.inl ⟨(Nat.le_of_ble_eq_true rfl), (ty.k (by decide) rfl)⟩) (And.intro (Nat.le_of_ble_eq_true rfl) (And.intro (Nat.le_of_ble_eq_true rfl) (kjY_mono ty (fun q_ u1 ty1 xu1 h_ => ?_) (hh))))))
  have q := h_
  intro _ _
  obtain rfl := hK _ _ q
  refine kjZ_y rfl rfl 2 _ _ _ _ ty1 ?_
  refine And.intro rfl (And.intro rfl ?_)
  exact q
theorem kr_76 (ty : kTY σ) {K : kK} (hK : ∀ r u, K r u → r = none) (hh : kjY kPP (kQQ Y) (d + 8) 221 0 (mjL0 7 [.ref 71]) [] σ K) : kjY kPP (kQQ Y) (d + 9) 203 0 (mjL0 2 [.ref 71, .ref (1000000 + 76)]) [] σ K := by
  have kj : kCm (1000000 + 76) := ⟨76, by decide, rfl⟩
  refine kd_203 ty (j := 76) (n := 29) (by decide) (by decide) ?_
  refine kjZ_y rfl rfl 2 _ _ _ _ ty ?_
  refine (And.intro (Nat.le_of_ble_eq_true rfl) (And.intro (Or.inl ⟨(Nat.le_of_ble_eq_true rfl), (ty.k (by decide) rfl)⟩) (And.intro (Nat.le_of_ble_eq_true rfl) (And.intro (Nat.le_of_ble_eq_true rfl) (kjY_mono ty (fun q_ u1 ty1 xu1 h_ => ?_) (hh))))))
  have q := h_
  intro _ _
  obtain rfl := hK _ _ q
  refine kjZ_y rfl rfl 2 _ _ _ _ ty1 ?_
  refine And.intro rfl (And.intro rfl ?_)
  exact q
theorem kr_77 (ty : kTY σ) {K : kK} (hK : ∀ r u, K r u → r = none) (hh : kjY kPP (kQQ Y) (d + 8) 222 0 (mjL0 3 [.ref 71]) [] σ K) : kjY kPP (kQQ Y) (d + 9) 203 0 (mjL0 2 [.ref 71, .ref (1000000 + 77)]) [] σ K := by
  have kj : kCm (1000000 + 77) := ⟨77, by decide, rfl⟩
  refine kd_203 ty (j := 77) (n := 32) (by decide) (by decide) ?_
  refine kjZ_y rfl rfl 2 _ _ _ _ ty ?_
  refine (And.intro (Nat.le_of_ble_eq_true rfl) (And.intro (Or.inl ⟨(Nat.le_of_ble_eq_true rfl), (ty.k (by decide) rfl)⟩) (And.intro (Nat.le_of_ble_eq_true rfl) (And.intro (Nat.le_of_ble_eq_true rfl) (kjY_mono ty (fun q_ u1 ty1 xu1 h_ => ?_) (hh))))))
  have q := h_
  intro _ _
  obtain rfl := hK _ _ q
  refine kjZ_y rfl rfl 2 _ _ _ _ ty1 ?_
  refine And.intro rfl (And.intro rfl ?_)
  exact q
theorem kr_78 (ty : kTY σ) {K : kK} (hK : ∀ r u, K r u → r = none) (hh : kjY kPP (kQQ Y) (d + 8) 208 0 (mjL0 7 [.ref 71, .int (Int32.ofInt 3)]) [] σ K) : kjY kPP (kQQ Y) (d + 9) 203 0 (mjL0 2 [.ref 71, .ref (1000000 + 78)]) [] σ K := by
  have kj : kCm (1000000 + 78) := ⟨78, by decide, rfl⟩
  refine kd_203 ty (j := 78) (n := 8) (by decide) (by decide) ?_
  refine kjZ_y rfl rfl 3 _ _ _ _ ty ?_
  refine (And.intro (Nat.le_of_ble_eq_true rfl) (And.intro (Or.inl ⟨(Nat.le_of_ble_eq_true rfl), (ty.k (by decide) rfl)⟩) (And.intro (Nat.le_of_ble_eq_true rfl) (And.intro (Nat.le_of_ble_eq_true rfl) (kjY_mono ty (fun q_ u1 ty1 xu1 h_ => ?_) (hh))))))
  have q := h_
  intro _ _
  obtain rfl := hK _ _ q
  refine kjZ_y rfl rfl 2 _ _ _ _ ty1 ?_
  refine And.intro rfl (And.intro rfl ?_)
  exact q
theorem kr_79 (ty : kTY σ) {K : kK} (hK : ∀ r u, K r u → r = none) (hh : kjY kPP (kQQ Y) (d + 8) 164 0 (mjL0 4 [.ref 67, .ref (1000000 + 79)]) [] σ K) : kjY kPP (kQQ Y) (d + 9) 162 0 (mjL0 2 [.ref 67, .ref (1000000 + 79)]) [] σ K := by
  have kj : kCm (1000000 + 79) := ⟨79, by decide, rfl⟩
  refine kd_162 ty (j := 79) (n := 5) (by decide) (by decide) ?_
  refine kjZ_y rfl rfl 3 _ _ _ _ ty ?_
  refine (And.intro (Nat.le_of_ble_eq_true rfl) (And.intro (Or.inl ⟨(Nat.le_of_ble_eq_true rfl), (ty.k (by decide) rfl)⟩) (And.intro (Nat.le_of_ble_eq_true rfl) (And.intro (Nat.le_of_ble_eq_true rfl) (kjY_mono ty (fun q_ u1 ty1 xu1 h_ => ?_) (hh))))))
  have q := h_
  intro _ _
  obtain rfl := hK _ _ q
  refine kjZ_y rfl rfl 2 _ _ _ _ ty1 ?_
  refine And.intro rfl (And.intro rfl ?_)
  exact q
theorem kr_81 (ty : kTY σ) {K : kK} (hK : ∀ r u, K r u → r = none) (hh : kjY kPP (kQQ Y) (d + 8) 223 0 (mjL0 3 [.ref 71, .ref (1000000 + 81)]) [] σ K) : kjY kPP (kQQ Y) (d + 9) 203 0 (mjL0 2 [.ref 71, .ref (1000000 + 81)]) [] σ K := by
  have kj : kCm (1000000 + 81) := ⟨81, by decide, rfl⟩
  refine kd_203 ty (j := 81) (n := 35) (by decide) (by decide) ?_
  refine kjZ_y rfl rfl 3 _ _ _ _ ty ?_
  refine (And.intro (Nat.le_of_ble_eq_true rfl) (And.intro (Or.inl ⟨(Nat.le_of_ble_eq_true rfl), (ty.k (by decide) rfl)⟩) (And.intro (Nat.le_of_ble_eq_true rfl) (And.intro (Nat.le_of_ble_eq_true rfl) (kjY_mono ty (fun q_ u1 ty1 xu1 h_ => ?_) (hh))))))
  have q := h_
  intro _ _
  obtain rfl := hK _ _ q
  refine kjZ_y rfl rfl 2 _ _ _ _ ty1 ?_
  refine And.intro rfl (And.intro rfl ?_)
  exact q
theorem kr_82 (ty : kTY σ) {K : kK} (hK : ∀ r u, K r u → r = none) (hh : kjY kPP (kQQ Y) (d + 8) 224 0 (mjL0 5 [.ref 71, .ref (1000000 + 82)]) [] σ K) : kjY kPP (kQQ Y) (d + 9) 203 0 (mjL0 2 [.ref 71, .ref (1000000 + 82)]) [] σ K := by
  have kj : kCm (1000000 + 82) := ⟨82, by decide, rfl⟩
  refine kd_203 ty (j := 82) (n := 39) (by decide) (by decide) ?_
  refine kjZ_y rfl rfl 3 _ _ _ _ ty ?_
  refine (And.intro (Nat.le_of_ble_eq_true rfl) (And.intro (Or.inl ⟨(Nat.le_of_ble_eq_true rfl), (ty.k (by decide) rfl)⟩) (And.intro (Nat.le_of_ble_eq_true rfl) (And.intro (Nat.le_of_ble_eq_true rfl) (kjY_mono ty (fun q_ u1 ty1 xu1 h_ => ?_) (hh))))))
  have q := h_
  intro _ _
  obtain rfl := hK _ _ q
  refine kjZ_y rfl rfl 1 _ _ _ _ ty1 ?_
  refine And.intro rfl (And.intro rfl ?_)
  exact q
theorem kr_84 (ty : kTY σ) {K : kK} (hK : ∀ r u, K r u → r = none) (hh : kjY kPP (kQQ Y) (d + 8) 159 0 (mjL0 5 [.ref 59, .int (Int32.ofInt 1)]) [] σ K) : kjY kPP (kQQ Y) (d + 9) 150 0 (mjL0 2 [.ref 59, .ref (1000000 + 84)]) [] σ K := by
  have kj : kCm (1000000 + 84) := ⟨84, by decide, rfl⟩
  refine kd_150 ty (j := 84) (n := 46) (by decide) (by decide) ?_
  refine kjZ_y rfl rfl 4 _ _ _ _ ty ?_
  refine And.intro ⟨(by assumption), ⟨84, by decide, rfl⟩, Or.inr rfl⟩ (And.intro (fun c => ?_) (fun c => ?_))
  · exact absurd rfl (ac_ne.mp c)
  refine kjZ_y rfl rfl 3 _ _ _ _ ty ?_
  refine (And.intro (Nat.le_of_ble_eq_true rfl) (And.intro (Or.inl ⟨(Nat.le_of_ble_eq_true rfl), (ty.k (by decide) rfl)⟩) (And.intro (Nat.le_of_ble_eq_true rfl) (And.intro (Nat.le_of_ble_eq_true rfl) (kjY_mono ty (fun q_ u1 ty1 xu1 h_ => ?_) (hh))))))
  have q := h_
  intro _ _
  obtain rfl := hK _ _ q
  refine kjZ_y rfl rfl 2 _ _ _ _ ty1 ?_
  refine And.intro rfl (And.intro rfl ?_)
  exact q
end KROADS
