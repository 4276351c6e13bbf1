/-! Each command's road within its group. -/
section KROADS3
variable {Y : Nat → MethodName × ByteArray} {d : Nat} {σ : kS}
theorem kr_89 (ty : kTY σ) {K : kK} (hK : ∀ r u, K r u → r = none) (hh : kjY kPP (kQQ Y) (d + 8) 238 0 (mjL0 3 [.ref 75]) [] σ K) : kjY kPP (kQQ Y) (d + 9) 229 0 (mjL0 2 [.ref 75, .ref (1000000 + 89)]) [] σ K := by
  have kj : kCm (1000000 + 89) := ⟨89, by decide, rfl⟩
  refine kd_229 ty (j := 89) (n := 5) (by decide) (by decide) ?_
  refine kjZ_y rfl rfl 2 _ _ _ _ ty ?_
  refine (And.intro (Nat.le_of_ble_eq_true rfl) (And.intro (Or.inl ⟨(Nat.le_of_ble_eq_true rfl), (ty.k (by decide) rfl)⟩) (And.intro (Nat.le_of_ble_eq_true rfl) (And.intro (Nat.le_of_ble_eq_true rfl) (kjY_mono ty (fun q_ u1 ty1 xu1 h_ => ?_) (hh))))))
  have q := h_
  intro _ _
  obtain rfl := hK _ _ q
  refine kjZ_y rfl rfl 2 _ _ _ _ ty1 ?_
  refine And.intro rfl (And.intro rfl ?_)
  exact q
theorem kr_90 (ty : kTY σ) {K : kK} (hK : ∀ r u, K r u → r = none) (hh : kjY kPP (kQQ Y) (d + 8) 243 0 (mjL0 2 [.ref 75]) [] σ K) : kjY kPP (kQQ Y) (d + 9) 229 0 (mjL0 2 [.ref 75, .ref (1000000 + 90)]) [] σ K := by
  have kj : kCm (1000000 + 90) := ⟨90, by decide, rfl⟩
  refine kd_229 ty (j := 90) (n := 62) (by decide) (by decide) ?_
  refine kjZ_y rfl rfl 2 _ _ _ _ ty ?_
  refine (And.intro (Nat.le_of_ble_eq_true rfl) (And.intro (Or.inl ⟨(Nat.le_of_ble_eq_true rfl), (ty.k (by decide) rfl)⟩) (And.intro (Nat.le_of_ble_eq_true rfl) (And.intro (Nat.le_of_ble_eq_true rfl) (kjY_mono ty (fun q_ u1 ty1 xu1 h_ => ?_) (hh))))))
  have q := h_
  intro _ _
  obtain rfl := hK _ _ q
  refine kjZ_y rfl rfl 1 _ _ _ _ ty1 ?_
  refine And.intro rfl (And.intro rfl ?_)
  exact q
theorem kr_91 (ty : kTY σ) {K : kK} (hK : ∀ r u, K r u → r = none) (hh : kjY kPP (kQQ Y) (d + 8) 253 0 (mjL0 2 [.ref 75]) [] σ K) : kjY kPP (kQQ Y) (d + 9) 229 0 (mjL0 2 [.ref 75, .ref (1000000 + 91)]) [] σ K := by
  have kj : kCm (1000000 + 91) := ⟨91, by decide, rfl⟩
  refine kd_229 ty (j := 91) (n := 44) (by decide) (by decide) ?_
  refine kjZ_y rfl rfl 2 _ _ _ _ ty ?_
  refine (And.intro (Nat.le_of_ble_eq_true rfl) (And.intro (Or.inl ⟨(Nat.le_of_ble_eq_true rfl), (ty.k (by decide) rfl)⟩) (And.intro (Nat.le_of_ble_eq_true rfl) (And.intro (Nat.le_of_ble_eq_true rfl) (kjY_mono ty (fun q_ u1 ty1 xu1 h_ => ?_) (hh))))))
  have q := h_
  intro _ _
  obtain rfl := hK _ _ q
  refine kjZ_y rfl rfl 2 _ _ _ _ ty1 ?_
  refine And.intro rfl (And.intro rfl ?_)
  exact q
theorem kr_92 (ty : kTY σ) {K : kK} (hK : ∀ r u, K r u → r = none) (hh : kjY kPP (kQQ Y) (d + 8) 240 0 (mjL0 2 [.ref 75]) [] σ K) : kjY kPP (kQQ Y) (d + 9) 229 0 (mjL0 2 [.ref 75, .ref (1000000 + 92)]) [] σ K := by
  have kj : kCm (1000000 + 92) := ⟨92, by decide, rfl⟩
  refine kd_229 ty (j := 92) (n := 8) (by decide) (by decide) ?_
  refine kjZ_y rfl rfl 2 _ _ _ _ ty ?_
  refine (And.intro (Nat.le_of_ble_eq_true rfl) (And.intro (Or.inl ⟨(Nat.le_of_ble_eq_true rfl), (ty.k (by decide) rfl)⟩) (And.intro (Nat.le_of_ble_eq_true rfl) (And.intro (Nat.le_of_ble_eq_true rfl) (kjY_mono ty (fun q_ u1 ty1 xu1 h_ => ?_) (hh))))))
  have q := h_
  intro _ _
  obtain rfl := hK _ _ q
  refine kjZ_y rfl rfl 2 _ _ _ _ ty1 ?_
  refine And.intro rfl (And.intro rfl ?_)
  exact q
theorem kr_93 (ty : kTY σ) {K : kK} (hK : ∀ r u, K r u → r = none) (hh : kjY kPP (kQQ Y) (d + 8) 257 0 (mjL0 6 [.ref 75, .int (Int32.ofInt 1)]) [] σ K) : kjY kPP (kQQ Y) (d + 9) 229 0 (mjL0 2 [.ref 75, .ref (1000000 + 93)]) [] σ K := by
  have kj : kCm (1000000 + 93) := ⟨93, by decide, rfl⟩
  refine kd_229 ty (j := 93) (n := 53) (by decide) (by decide) ?_
  refine kjZ_y rfl rfl 4 _ _ _ _ ty ?_
  refine And.intro ⟨(by assumption), ⟨93, by decide, rfl⟩, Or.inr rfl⟩ (And.intro (fun c => ?_) (fun c => ?_))
  · exact absurd rfl (ac_ne.mp c)
  refine kjZ_y rfl rfl 3 _ _ _ _ ty ?_
  refine (And.intro (Nat.le_of_ble_eq_true rfl) (And.intro (Or.inl ⟨(Nat.le_of_ble_eq_true rfl), (ty.k (by decide) rfl)⟩) (And.intro (Nat.le_of_ble_eq_true rfl) (And.intro (Nat.le_of_ble_eq_true rfl) (kjY_mono ty (fun q_ u1 ty1 xu1 h_ => ?_) (hh))))))
  have q := h_
  intro _ _
  obtain rfl := hK _ _ q
  refine kjZ_y rfl rfl 2 _ _ _ _ ty1 ?_
  refine And.intro rfl (And.intro rfl ?_)
  exact q
theorem kr_94 (ty : kTY σ) {K : kK} (hK : ∀ r u, K r u → r = none) (hh : kjY kPP (kQQ Y) (d + 8) 257 0 (mjL0 6 [.ref 75, .int (Int32.ofInt 0)]) [] σ K) : kjY kPP (kQQ Y) (d + 9) 229 0 (mjL0 2 [.ref 75, .ref (1000000 + 94)]) [] σ K := by
  have kj : kCm (1000000 + 94) := ⟨94, by decide, rfl⟩
  refine kd_229 ty (j := 94) (n := 53) (by decide) (by decide) ?_
  refine kjZ_y rfl rfl 4 _ _ _ _ ty ?_
  refine And.intro ⟨(by assumption), ⟨93, by decide, rfl⟩, Or.inr rfl⟩ (And.intro (fun c => ?_) (fun c => ?_))
  rotate_left
  · exact absurd (ac_ne.mpr (by decide)) c
  refine kjZ_y rfl rfl 2 _ _ _ _ ty ?_
  refine (And.intro (Nat.le_of_ble_eq_true rfl) (And.intro (Or.inl ⟨(Nat.le_of_ble_eq_true rfl), (ty.k (by decide) rfl)⟩) (And.intro (Nat.le_of_ble_eq_true rfl) (And.intro (Nat.le_of_ble_eq_true rfl) (kjY_mono ty (fun q_ u1 ty1 xu1 h_ => ?_) (hh))))))
  have q := h_
  intro _ _
  obtain rfl := hK _ _ q
  refine kjZ_y rfl rfl 2 _ _ _ _ ty1 ?_
  refine And.intro rfl (And.intro rfl ?_)
  exact q
theorem kr_95 (ty : kTY σ) {K : kK} (hK : ∀ r u, K r u → r = none) (hh : kjY kPP (kQQ Y) (d + 8) 247 0 (mjL0 4 [.ref 75, .int (Int32.ofInt 0)]) [] σ K) : kjY kPP (kQQ Y) (d + 9) 229 0 (mjL0 2 [.ref 75, .ref (1000000 + 95)]) [] σ K := by
  have kj : kCm (1000000 + 95) := ⟨95, by decide, rfl⟩
  refine kd_229 ty (j := 95) (n := 26) (by decide) (by decide) ?_
  refine kjZ_y rfl rfl 4 _ _ _ _ ty ?_
  refine And.intro ⟨(by assumption), ⟨101, by decide, rfl⟩, Or.inr rfl⟩ (And.intro (fun c => ?_) (fun c => ?_))
  rotate_left
  · exact absurd (ac_ne.mpr (by decide)) c
  refine kjZ_y rfl rfl 2 _ _ _ _ ty ?_
  refine (And.intro (Nat.le_of_ble_eq_true rfl) (And.intro (Or.inl ⟨(Nat.le_of_ble_eq_true rfl), (ty.k (by decide) rfl)⟩) (And.intro (Nat.le_of_ble_eq_true rfl) (And.intro (Nat.le_of_ble_eq_true rfl) (kjY_mono ty (fun q_ u1 ty1 xu1 h_ => ?_) (hh))))))
  have q := h_
  intro _ _
  obtain rfl := hK _ _ q
  refine kjZ_y rfl rfl 2 _ _ _ _ ty1 ?_
  refine And.intro rfl (And.intro rfl ?_)
  exact q
theorem kr_96 (ty : kTY σ) {K : kK} (hK : ∀ r u, K r u → r = none) (hh : kjY kPP (kQQ Y) (d + 8) 252 0 (mjL0 12 [.ref 75, .int (Int32.ofInt 0)]) [] σ K) : kjY kPP (kQQ Y) (d + 9) 229 0 (mjL0 2 [.ref 75, .ref (1000000 + 96)]) [] σ K := by
  have kj : kCm (1000000 + 96) := ⟨96, by decide, rfl⟩
  refine kd_229 ty (j := 96) (n := 35) (by decide) (by decide) ?_
  refine kjZ_y rfl rfl 4 _ _ _ _ ty ?_
  refine And.intro ⟨(by assumption), ⟨102, by decide, rfl⟩, Or.inr rfl⟩ (And.intro (fun c => ?_) (fun c => ?_))
  rotate_left
  · exact absurd (ac_ne.mpr (by decide)) c
  refine kjZ_y rfl rfl 2 _ _ _ _ ty ?_
  refine (And.intro (Nat.le_of_ble_eq_true rfl) (And.intro (Or.inl ⟨(Nat.le_of_ble_eq_true rfl), (ty.k (by decide) rfl)⟩) (And.intro (Nat.le_of_ble_eq_true rfl) (And.intro (Nat.le_of_ble_eq_true rfl) (kjY_mono ty (fun q_ u1 ty1 xu1 h_ => ?_) (hh))))))
  have q := h_
  intro _ _
  obtain rfl := hK _ _ q
  refine kjZ_y rfl rfl 2 _ _ _ _ ty1 ?_
  refine And.intro rfl (And.intro rfl ?_)
  exact q
theorem kr_97 (ty : kTY σ) {K : kK} (hK : ∀ r u, K r u → r = none) (hh : kjY kPP (kQQ Y) (d + 8) 245 0 (mjL0 6 [.ref 75, .int (Int32.ofInt 0)]) [] σ K) : kjY kPP (kQQ Y) (d + 9) 229 0 (mjL0 2 [.ref 75, .ref (1000000 + 97)]) [] σ K := by
  have kj : kCm (1000000 + 97) := ⟨97, by decide, rfl⟩
  refine kd_229 ty (j := 97) (n := 17) (by decide) (by decide) ?_
  refine kjZ_y rfl rfl 4 _ _ _ _ ty ?_
  refine And.intro ⟨(by assumption), ⟨103, by decide, rfl⟩, Or.inr rfl⟩ (And.intro (fun c => ?_) (fun c => ?_))
  rotate_left
  · exact absurd (ac_ne.mpr (by decide)) c
  refine kjZ_y rfl rfl 2 _ _ _ _ ty ?_
  refine (And.intro (Nat.le_of_ble_eq_true rfl) (And.intro (Or.inl ⟨(Nat.le_of_ble_eq_true rfl), (ty.k (by decide) rfl)⟩) (And.intro (Nat.le_of_ble_eq_true rfl) (And.intro (Nat.le_of_ble_eq_true rfl) (kjY_mono ty (fun q_ u1 ty1 xu1 h_ => ?_) (hh))))))
  have q := h_
  intro _ _
  obtain rfl := hK _ _ q
  refine kjZ_y rfl rfl 2 _ _ _ _ ty1 ?_
  refine And.intro rfl (And.intro rfl ?_)
  exact q
theorem kr_98 (ty : kTY σ) {K : kK} (hK : ∀ r u, K r u → r = none) (hh : kjY kPP (kQQ Y) (d + 8) 242 0 (mjL0 6 [.ref 75]) [] σ K) : kjY kPP (kQQ Y) (d + 9) 229 0 (mjL0 2 [.ref 75, .ref (1000000 + 98)]) [] σ K := by
  have kj : kCm (1000000 + 98) := ⟨98, by decide, rfl⟩
  refine kd_229 ty (j := 98) (n := 11) (by decide) (by decide) ?_
  refine kjZ_y rfl rfl 2 _ _ _ _ ty ?_
  refine (And.intro (Nat.le_of_ble_eq_true rfl) (And.intro (Or.inl ⟨(Nat.le_of_ble_eq_true rfl), (ty.k (by decide) rfl)⟩) (And.intro (Nat.le_of_ble_eq_true rfl) (And.intro (Nat.le_of_ble_eq_true rfl) (kjY_mono ty (fun q_ u1 ty1 xu1 h_ => ?_) (hh))))))
  have q := h_
  intro _ _
  obtain rfl := hK _ _ q
  refine kjZ_y rfl rfl 2 _ _ _ _ ty1 ?_
  refine And.intro rfl (And.intro rfl ?_)
  exact q
theorem kr_99 (ty : kTY σ) {K : kK} (hK : ∀ r u, K r u → r = none) (hh : kjY kPP (kQQ Y) (d + 8) 255 0 (mjL0 3 [.ref 75]) [] σ K) : kjY kPP (kQQ Y) (d + 9) 229 0 (mjL0 2 [.ref 75, .ref (1000000 + 99)]) [] σ K := by
  have kj : kCm (1000000 + 99) := ⟨99, by decide, rfl⟩
  refine kd_229 ty (j := 99) (n := 47) (by decide) (by decide) ?_
  refine kjZ_y rfl rfl 2 _ _ _ _ ty ?_
  refine (And.intro (Nat.le_of_ble_eq_true rfl) (And.intro (Or.inl ⟨(Nat.le_of_ble_eq_true rfl), (ty.k (by decide) rfl)⟩) (And.intro (Nat.le_of_ble_eq_true rfl) (And.intro (Nat.le_of_ble_eq_true rfl) (kjY_mono ty (fun q_ u1 ty1 xu1 h_ => ?_) (hh))))))
  have q := h_
  intro _ _
  obtain rfl := hK _ _ q
  refine kjZ_y rfl rfl 2 _ _ _ _ ty1 ?_
  refine And.intro rfl (And.intro rfl ?_)
  exact q
theorem kr_100 (ty : kTY σ) {K : kK} (hK : ∀ r u, K r u → r = none) (hh : kjY kPP (kQQ Y) (d + 8) 256 0 (mjL0 5 [.ref 75]) [] σ K) : kjY kPP (kQQ Y) (d + 9) 229 0 (mjL0 2 [.ref 75, .ref (1000000 + 100)]) [] σ K := by
  have kj : kCm (1000000 + 100) := ⟨100, by decide, rfl⟩
  refine kd_229 ty (j := 100) (n := 50) (by decide) (by decide) ?_
  refine kjZ_y rfl rfl 2 _ _ _ _ ty ?_
  refine (And.intro (Nat.le_of_ble_eq_true rfl) (And.intro (Or.inl ⟨(Nat.le_of_ble_eq_true rfl), (ty.k (by decide) rfl)⟩) (And.intro (Nat.le_of_ble_eq_true rfl) (And.intro (Nat.le_of_ble_eq_true rfl) (kjY_mono ty (fun q_ u1 ty1 xu1 h_ => ?_) (hh))))))
  have q := h_
  intro _ _
  obtain rfl := hK _ _ q
  refine kjZ_y rfl rfl 2 _ _ _ _ ty1 ?_
  refine And.intro rfl (And.intro rfl ?_)
  exact q
theorem kr_101 (ty : kTY σ) {K : kK} (hK : ∀ r u, K r u → r = none) (hh : kjY kPP (kQQ Y) (d + 8) 247 0 (mjL0 4 [.ref 75, .int (Int32.ofInt 1)]) [] σ K) : kjY kPP (kQQ Y) (d + 9) 229 0 (mjL0 2 [.ref 75, .ref (1000000 + 101)]) [] σ K := by
  have kj : kCm (1000000 + 101) := ⟨101, by decide, rfl⟩
  refine kd_229 ty (j := 101) (n := 26) (by decide) (by decide) ?_
  refine kjZ_y rfl rfl 4 _ _ _ _ ty ?_
  refine And.intro ⟨(by assumption), ⟨101, by decide, rfl⟩, Or.inr rfl⟩ (And.intro (fun c => ?_) (fun c => ?_))
  · exact absurd rfl (ac_ne.mp c)
  refine kjZ_y rfl rfl 3 _ _ _ _ ty ?_
  refine (And.intro (Nat.le_of_ble_eq_true rfl) (And.intro (Or.inl ⟨(Nat.le_of_ble_eq_true rfl), (ty.k (by decide) rfl)⟩) (And.intro (Nat.le_of_ble_eq_true rfl) (And.intro (Nat.le_of_ble_eq_true rfl) (kjY_mono ty (fun q_ u1 ty1 xu1 h_ => ?_) (hh))))))
  have q := h_
  intro _ _
  obtain rfl := hK _ _ q
  refine kjZ_y rfl rfl 2 _ _ _ _ ty1 ?_
  refine And.intro rfl (And.intro rfl ?_)
  exact q
theorem kr_102 (ty : kTY σ) {K : kK} (hK : ∀ r u, K r u → r = none) (hh : kjY kPP (kQQ Y) (d + 8) 252 0 (mjL0 12 [.ref 75, .int (Int32.ofInt 1)]) [] σ K) : kjY kPP (kQQ Y) (d + 9) 229 0 (mjL0 2 [.ref 75, .ref (1000000 + 102)]) [] σ K := by
  have kj : kCm (1000000 + 102) := ⟨102, by decide, rfl⟩
  refine kd_229 ty (j := 102) (n := 35) (by decide) (by decide) ?_
  refine kjZ_y rfl rfl 4 _ _ _ _ ty ?_
  refine And.intro ⟨(by assumption), ⟨102, by decide, rfl⟩, Or.inr rfl⟩ (And.intro (fun c => ?_) (fun c => ?_))
  · exact absurd rfl (ac_ne.mp c)
  refine kjZ_y rfl rfl 3 _ _ _ _ ty ?_
  refine (And.intro (Nat.le_of_ble_eq_true rfl) (And.intro (Or.inl ⟨(Nat.le_of_ble_eq_true rfl), (ty.k (by decide) rfl)⟩) (And.intro (Nat.le_of_ble_eq_true rfl) (And.intro (Nat.le_of_ble_eq_true rfl) (kjY_mono ty (fun q_ u1 ty1 xu1 h_ => ?_) (hh))))))
  have q := h_
  intro _ _
  obtain rfl := hK _ _ q
  refine kjZ_y rfl rfl 2 _ _ _ _ ty1 ?_
  refine And.intro rfl (And.intro rfl ?_)
  exact q
theorem kr_103 (ty : kTY σ) {K : kK} (hK : ∀ r u, K r u → r = none) (hh : kjY kPP (kQQ Y) (d + 8) 245 0 (mjL0 6 [.ref 75, .int (Int32.ofInt 1)]) [] σ K) : kjY kPP (kQQ Y) (d + 9) 229 0 (mjL0 2 [.ref 75, .ref (1000000 + 103)]) [] σ K := by
  have kj : kCm (1000000 + 103) := ⟨103, by decide, rfl⟩
  refine kd_229 ty (j := 103) (n := 17) (by decide) (by decide) ?_
  refine kjZ_y rfl rfl 4 _ _ _ _ ty ?_
  refine And.intro ⟨(by assumption), ⟨103, by decide, rfl⟩, Or.inr rfl⟩ (And.intro (fun c => ?_) (fun c => ?_))
  · exact absurd rfl (ac_ne.mp c)
  refine kjZ_y rfl rfl 3 _ _ _ _ ty ?_
  refine (And.intro (Nat.le_of_ble_eq_true rfl) (And.intro (Or.inl ⟨(Nat.le_of_ble_eq_true rfl), (ty.k (by decide) rfl)⟩) (And.intro (Nat.le_of_ble_eq_true rfl) (And.intro (Nat.le_of_ble_eq_true rfl) (kjY_mono ty (fun q_ u1 ty1 xu1 h_ => ?_) (hh))))))
  have q := h_
  intro _ _
  obtain rfl := hK _ _ q
  refine kjZ_y rfl rfl 2 _ _ _ _ ty1 ?_
  refine And.intro rfl (And.intro rfl ?_)
  exact q
theorem kr_104 (ty : kTY σ) {K : kK} (hK : ∀ r u, K r u → r = none) (hh : kjY kPP (kQQ Y) (d + 8) 244 0 (mjL0 3 [.ref 75]) [] σ K) : kjY kPP (kQQ Y) (d + 9) 229 0 (mjL0 2 [.ref 75, .ref (1000000 + 104)]) [] σ K := by
  have kj : kCm (1000000 + 104) := ⟨104, by decide, rfl⟩
  refine kd_229 ty (j := 104) (n := 14) (by decide) (by decide) ?_
  refine kjZ_y rfl rfl 2 _ _ _ _ ty ?_
  refine (And.intro (Nat.le_of_ble_eq_true rfl) (And.intro (Or.inl ⟨(Nat.le_of_ble_eq_true rfl), (ty.k (by decide) rfl)⟩) (And.intro (Nat.le_of_ble_eq_true rfl) (And.intro (Nat.le_of_ble_eq_true rfl) (kjY_mono ty (fun q_ u1 ty1 xu1 h_ => ?_) (hh))))))
  have q := h_
  intro _ _
  obtain rfl := hK _ _ q
  refine kjZ_y rfl rfl 2 _ _ _ _ ty1 ?_
  refine And.intro rfl (And.intro rfl ?_)
  exact q
end KROADS3
