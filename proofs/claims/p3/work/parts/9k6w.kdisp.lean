/-! Where a command goes within its group. -/
section KDISP
variable {Y : Nat → MethodName × ByteArray} {d : Nat} {σ : kS}
theorem kd_150 (ty : kTY σ) {K : kK} {j n : Nat} (hj : j < 105) (hn : kSg 4 (kCmd j).2.2.2.2.2 = n) (h : kjY kPP (kQQ Y) (d + 1) 150 n [some (.ref 59), some (.ref (1000000 + j))] [] σ K) : kjY kPP (kQQ Y) (d + 1) 150 0 (mjL0 2 [.ref 59, .ref (1000000 + j)]) [] σ K := by
  have kj : kCm (1000000 + j) := ⟨j, hj, rfl⟩
  have e : (nI j).toNatClampNeg = j := nI_clamp (by omega)
  refine kjZ_y rfl rfl 5 _ _ _ _ ty ?_
  refine (Exists.intro _ (And.intro ⟨hj, rfl, by decide, by omega⟩ (Or.inr (Exists.intro _ (Exists.intro _ (And.intro (Or.inr (Or.inl ⟨rfl, rfl, rfl, rfl⟩)) (And.intro (vp_in_nI hj (by decide)) (Exists.intro _ (And.intro rfl ?_)))))))))
  have go : ∀ v : Int32, v = (kCmd j).2.2.2.2.2 → kjY kPP (kQQ Y) (d + 1) 150 (kSg 4 v) [some (.ref 59), some (.ref (1000000 + j))] [] σ K := fun v ev => by
    rw [ev, hn]; exact h
  exact go _ (by rw [e])
theorem kd_162 (ty : kTY σ) {K : kK} {j n : Nat} (hj : j < 105) (hn : kSg 5 (kCmd j).2.2.2.2.2 = n) (h : kjY kPP (kQQ Y) (d + 1) 162 n [some (.ref 67), some (.ref (1000000 + j))] [] σ K) : kjY kPP (kQQ Y) (d + 1) 162 0 (mjL0 2 [.ref 67, .ref (1000000 + j)]) [] σ K := by
  have kj : kCm (1000000 + j) := ⟨j, hj, rfl⟩
  have e : (nI j).toNatClampNeg = j := nI_clamp (by omega)
  refine kjZ_y rfl rfl 5 _ _ _ _ ty ?_
  refine (Exists.intro _ (And.intro ⟨hj, rfl, by decide, by omega⟩ (Or.inr (Exists.intro _ (Exists.intro _ (And.intro (Or.inr (Or.inl ⟨rfl, rfl, rfl, rfl⟩)) (And.intro (vp_in_nI hj (by decide)) (Exists.intro _ (And.intro rfl ?_)))))))))
  have go : ∀ v : Int32, v = (kCmd j).2.2.2.2.2 → kjY kPP (kQQ Y) (d + 1) 162 (kSg 5 v) [some (.ref 67), some (.ref (1000000 + j))] [] σ K := fun v ev => by
    rw [ev, hn]; exact h
  exact go _ (by rw [e])
theorem kd_188 (ty : kTY σ) {K : kK} {j n : Nat} (hj : j < 105) (hn : kSg 6 (kCmd j).2.2.2.2.2 = n) (h : kjY kPP (kQQ Y) (d + 1) 188 n [some (.ref 70), some (.ref (1000000 + j))] [] σ K) : kjY kPP (kQQ Y) (d + 1) 188 0 (mjL0 2 [.ref 70, .ref (1000000 + j)]) [] σ K := by
  have kj : kCm (1000000 + j) := ⟨j, hj, rfl⟩
  have e : (nI j).toNatClampNeg = j := nI_clamp (by omega)
  refine kjZ_y rfl rfl 5 _ _ _ _ ty ?_
  refine (Exists.intro _ (And.intro ⟨hj, rfl, by decide, by omega⟩ (Or.inr (Exists.intro _ (Exists.intro _ (And.intro (Or.inr (Or.inl ⟨rfl, rfl, rfl, rfl⟩)) (And.intro (vp_in_nI hj (by decide)) (Exists.intro _ (And.intro rfl ?_)))))))))
  have go : ∀ v : Int32, v = (kCmd j).2.2.2.2.2 → kjY kPP (kQQ Y) (d + 1) 188 (kSg 6 v) [some (.ref 70), some (.ref (1000000 + j))] [] σ K := fun v ev => by
    rw [ev, hn]; exact h
  exact go _ (by rw [e])
theorem kd_202 (ty : kTY σ) {K : kK} {j n : Nat} (hj : j < 105) (hn : kSg 7 (kCmd j).2.2.2.2.2 = n) (h : kjY kPP (kQQ Y) (d + 1) 202 n [some (.ref 71), some (.ref (1000000 + j))] [] σ K) : kjY kPP (kQQ Y) (d + 1) 202 0 (mjL0 2 [.ref 71, .ref (1000000 + j)]) [] σ K := by
  have kj : kCm (1000000 + j) := ⟨j, hj, rfl⟩
  have e : (nI j).toNatClampNeg = j := nI_clamp (by omega)
  refine kjZ_y rfl rfl 5 _ _ _ _ ty ?_
  refine (Exists.intro _ (And.intro ⟨hj, rfl, by decide, by omega⟩ (Or.inr (Exists.intro _ (Exists.intro _ (And.intro (Or.inr (Or.inl ⟨rfl, rfl, rfl, rfl⟩)) (And.intro (vp_in_nI hj (by decide)) (Exists.intro _ (And.intro rfl ?_)))))))))
  have go : ∀ v : Int32, v = (kCmd j).2.2.2.2.2 → kjY kPP (kQQ Y) (d + 1) 202 (kSg 7 v) [some (.ref 71), some (.ref (1000000 + j))] [] σ K := fun v ev => by
    rw [ev, hn]; exact h
  exact go _ (by rw [e])
theorem kd_203 (ty : kTY σ) {K : kK} {j n : Nat} (hj : j < 105) (hn : kSg 8 (kCmd j).2.2.2.2.2 = n) (h : kjY kPP (kQQ Y) (d + 1) 203 n [some (.ref 71), some (.ref (1000000 + j))] [] σ K) : kjY kPP (kQQ Y) (d + 1) 203 0 (mjL0 2 [.ref 71, .ref (1000000 + j)]) [] σ K := by
  have kj : kCm (1000000 + j) := ⟨j, hj, rfl⟩
  have e : (nI j).toNatClampNeg = j := nI_clamp (by omega)
  refine kjZ_y rfl rfl 5 _ _ _ _ ty ?_
  refine (Exists.intro _ (And.intro ⟨hj, rfl, by decide, by omega⟩ (Or.inr (Exists.intro _ (Exists.intro _ (And.intro (Or.inr (Or.inl ⟨rfl, rfl, rfl, rfl⟩)) (And.intro (vp_in_nI hj (by decide)) (Exists.intro _ (And.intro rfl ?_)))))))))
  have go : ∀ v : Int32, v = (kCmd j).2.2.2.2.2 → kjY kPP (kQQ Y) (d + 1) 203 (kSg 8 v) [some (.ref 71), some (.ref (1000000 + j))] [] σ K := fun v ev => by
    rw [ev, hn]; exact h
  exact go _ (by rw [e])
theorem kd_229 (ty : kTY σ) {K : kK} {j n : Nat} (hj : j < 105) (hn : kSg 9 (kCmd j).2.2.2.2.2 = n) (h : kjY kPP (kQQ Y) (d + 1) 229 n [some (.ref 75), some (.ref (1000000 + j))] [] σ K) : kjY kPP (kQQ Y) (d + 1) 229 0 (mjL0 2 [.ref 75, .ref (1000000 + j)]) [] σ K := by
  have kj : kCm (1000000 + j) := ⟨j, hj, rfl⟩
  have e : (nI j).toNatClampNeg = j := nI_clamp (by omega)
  refine kjZ_y rfl rfl 5 _ _ _ _ ty ?_
  refine (Exists.intro _ (And.intro ⟨hj, rfl, by decide, by omega⟩ (Or.inr (Exists.intro _ (Exists.intro _ (And.intro (Or.inr (Or.inl ⟨rfl, rfl, rfl, rfl⟩)) (And.intro (vp_in_nI hj (by decide)) (Exists.intro _ (And.intro rfl ?_)))))))))
  have go : ∀ v : Int32, v = (kCmd j).2.2.2.2.2 → kjY kPP (kQQ Y) (d + 1) 229 (kSg 9 v) [some (.ref 75), some (.ref (1000000 + j))] [] σ K := fun v ev => by
    rw [ev, hn]; exact h
  exact go _ (by rw [e])
end KDISP
