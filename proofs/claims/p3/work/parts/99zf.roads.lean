/-! run's roads: from its dispatch to the command's own method. -/
section ROADS
variable {Y : Nat → MethodName × ByteArray} {d : Nat}
set_option maxRecDepth 100000 in
theorem dp_1 {σ : mjS} (ty : mjTY σ) {K : mjK} (hK : ∀ r u, K r u → r = none) (hh : mjY mjPP (mjQQ Y) (d + 7) 92 0 (mjL0 6 [.ref 0, .int (nI 1)]) [] σ K) : mjY mjPP (mjQQ Y) (d + 9) 155 36 [some (.ref 0), some (.int (nI 1))] [] σ K := by
  have ne : ∀ c : Nat, c < 128 ∧ c ≠ 1 → ¬ nI 1 = nI c := fun c hc y => hc.2 ((nI_eq (by decide) (by omega)).mp y).symm
  have dq : mjY mjPP (mjQQ Y) (d + 8) 156 0 (mjL0 2 [.ref 0, .int (nI 1)]) [] σ K := by
    refine mjZ_y rfl rfl 39 _ _ _ _ ty ?_
    refine (bn_f (ne 2 (by decide)) (bn_f (ne 4 (by decide)) (bn_f (ne 5 (by decide)) (bn_f (ne 6 (by decide)) (bn_t (ne 7 (by decide)) (bn_t (ne 8 (by decide)) (bn_f (ne 9 (by decide)) (bn_t (ne 10 (by decide)) (bn_t (ne 11 (by decide)) (bn_t (ne 14 (by decide)) (bk_t rfl (bn_t (ne 19 (by decide)) (And.intro (Nat.le_of_ble_eq_true rfl) (And.intro rfl (And.intro (Nat.le_of_ble_eq_true rfl) (And.intro (Nat.le_of_ble_eq_true rfl) (mjY_mono ty (fun q_ u1 ty1 h_ => ?_) (hh))))))))))))))))))
    have h1 := h_
    intro _
    obtain rfl := hK _ _ h1
    refine mjZ_y rfl rfl 1 _ _ _ _ ty1 ?_
    refine And.intro rfl (And.intro rfl ?_)
    exact h1
  refine mjZ_y rfl rfl 6 _ _ _ _ ty ?_
  refine (bk_f rfl (And.intro (Nat.le_of_ble_eq_true rfl) (And.intro rfl (And.intro (Nat.le_of_ble_eq_true rfl) (And.intro (Nat.le_of_ble_eq_true rfl) (mjY_mono ty (fun q_ u1 ty1 h_ => ?_) (dq)))))))
  have h1 := h_
  intro _
  obtain rfl := hK _ _ h1
  refine mjZ_y rfl rfl 2 _ _ _ _ ty1 ?_
  refine And.intro rfl (And.intro rfl ?_)
  exact h1
set_option maxRecDepth 100000 in
theorem dp_2 {σ : mjS} (ty : mjTY σ) {K : mjK} (hK : ∀ r u, K r u → r = none) (hh : mjY mjPP (mjQQ Y) (d + 7) 81 0 (mjL0 4 [.ref 0, .int (nI 2)]) [] σ K) : mjY mjPP (mjQQ Y) (d + 9) 155 36 [some (.ref 0), some (.int (nI 2))] [] σ K := by
  have ne : ∀ c : Nat, c < 128 ∧ c ≠ 2 → ¬ nI 2 = nI c := fun c hc y => hc.2 ((nI_eq (by decide) (by omega)).mp y).symm
  have dq : mjY mjPP (mjQQ Y) (d + 8) 156 0 (mjL0 2 [.ref 0, .int (nI 2)]) [] σ K := by
    refine mjZ_y rfl rfl 6 _ _ _ _ ty ?_
    refine (bn_t rfl (And.intro (Nat.le_of_ble_eq_true rfl) (And.intro rfl (And.intro (Nat.le_of_ble_eq_true rfl) (And.intro (Nat.le_of_ble_eq_true rfl) (mjY_mono ty (fun q_ u1 ty1 h_ => ?_) (hh)))))))
    have h1 := h_
    intro _
    obtain rfl := hK _ _ h1
    refine mjZ_y rfl rfl 2 _ _ _ _ ty1 ?_
    refine And.intro rfl (And.intro rfl ?_)
    exact h1
  refine mjZ_y rfl rfl 6 _ _ _ _ ty ?_
  refine (bk_f rfl (And.intro (Nat.le_of_ble_eq_true rfl) (And.intro rfl (And.intro (Nat.le_of_ble_eq_true rfl) (And.intro (Nat.le_of_ble_eq_true rfl) (mjY_mono ty (fun q_ u1 ty1 h_ => ?_) (dq)))))))
  have h1 := h_
  intro _
  obtain rfl := hK _ _ h1
  refine mjZ_y rfl rfl 2 _ _ _ _ ty1 ?_
  refine And.intro rfl (And.intro rfl ?_)
  exact h1
set_option maxRecDepth 100000 in
theorem dp_3 {σ : mjS} (ty : mjTY σ) {K : mjK} (hK : ∀ r u, K r u → r = none) (hh : mjY mjPP (mjQQ Y) (d + 7) 92 0 (mjL0 6 [.ref 0, .int (nI 3)]) [] σ K) : mjY mjPP (mjQQ Y) (d + 9) 155 36 [some (.ref 0), some (.int (nI 3))] [] σ K := by
  have ne : ∀ c : Nat, c < 128 ∧ c ≠ 3 → ¬ nI 3 = nI c := fun c hc y => hc.2 ((nI_eq (by decide) (by omega)).mp y).symm
  have dq : mjY mjPP (mjQQ Y) (d + 8) 156 0 (mjL0 2 [.ref 0, .int (nI 3)]) [] σ K := by
    refine mjZ_y rfl rfl 39 _ _ _ _ ty ?_
    refine (bn_f (ne 2 (by decide)) (bn_f (ne 4 (by decide)) (bn_f (ne 5 (by decide)) (bn_f (ne 6 (by decide)) (bn_t (ne 7 (by decide)) (bn_t (ne 8 (by decide)) (bn_f (ne 9 (by decide)) (bn_t (ne 10 (by decide)) (bn_t (ne 11 (by decide)) (bn_t (ne 14 (by decide)) (bk_t rfl (bn_t (ne 19 (by decide)) (And.intro (Nat.le_of_ble_eq_true rfl) (And.intro rfl (And.intro (Nat.le_of_ble_eq_true rfl) (And.intro (Nat.le_of_ble_eq_true rfl) (mjY_mono ty (fun q_ u1 ty1 h_ => ?_) (hh))))))))))))))))))
    have h1 := h_
    intro _
    obtain rfl := hK _ _ h1
    refine mjZ_y rfl rfl 1 _ _ _ _ ty1 ?_
    refine And.intro rfl (And.intro rfl ?_)
    exact h1
  refine mjZ_y rfl rfl 6 _ _ _ _ ty ?_
  refine (bk_f rfl (And.intro (Nat.le_of_ble_eq_true rfl) (And.intro rfl (And.intro (Nat.le_of_ble_eq_true rfl) (And.intro (Nat.le_of_ble_eq_true rfl) (mjY_mono ty (fun q_ u1 ty1 h_ => ?_) (dq)))))))
  have h1 := h_
  intro _
  obtain rfl := hK _ _ h1
  refine mjZ_y rfl rfl 2 _ _ _ _ ty1 ?_
  refine And.intro rfl (And.intro rfl ?_)
  exact h1
set_option maxRecDepth 100000 in
theorem dp_4 {σ : mjS} (ty : mjTY σ) {K : mjK} (hK : ∀ r u, K r u → r = none) (hh : mjY mjPP (mjQQ Y) (d + 7) 81 0 (mjL0 4 [.ref 0, .int (nI 4)]) [] σ K) : mjY mjPP (mjQQ Y) (d + 9) 155 36 [some (.ref 0), some (.int (nI 4))] [] σ K := by
  have ne : ∀ c : Nat, c < 128 ∧ c ≠ 4 → ¬ nI 4 = nI c := fun c hc y => hc.2 ((nI_eq (by decide) (by omega)).mp y).symm
  have dq : mjY mjPP (mjQQ Y) (d + 8) 156 0 (mjL0 2 [.ref 0, .int (nI 4)]) [] σ K := by
    refine mjZ_y rfl rfl 9 _ _ _ _ ty ?_
    refine (bn_f (ne 2 (by decide)) (bn_t rfl (And.intro (Nat.le_of_ble_eq_true rfl) (And.intro rfl (And.intro (Nat.le_of_ble_eq_true rfl) (And.intro (Nat.le_of_ble_eq_true rfl) (mjY_mono ty (fun q_ u1 ty1 h_ => ?_) (hh))))))))
    have h1 := h_
    intro _
    obtain rfl := hK _ _ h1
    refine mjZ_y rfl rfl 2 _ _ _ _ ty1 ?_
    refine And.intro rfl (And.intro rfl ?_)
    exact h1
  refine mjZ_y rfl rfl 6 _ _ _ _ ty ?_
  refine (bk_f rfl (And.intro (Nat.le_of_ble_eq_true rfl) (And.intro rfl (And.intro (Nat.le_of_ble_eq_true rfl) (And.intro (Nat.le_of_ble_eq_true rfl) (mjY_mono ty (fun q_ u1 ty1 h_ => ?_) (dq)))))))
  have h1 := h_
  intro _
  obtain rfl := hK _ _ h1
  refine mjZ_y rfl rfl 2 _ _ _ _ ty1 ?_
  refine And.intro rfl (And.intro rfl ?_)
  exact h1
set_option maxRecDepth 100000 in
theorem dp_5 {σ : mjS} (ty : mjTY σ) {K : mjK} (hK : ∀ r u, K r u → r = none) (hh : mjY mjPP (mjQQ Y) (d + 7) 81 0 (mjL0 4 [.ref 0, .int (nI 5)]) [] σ K) : mjY mjPP (mjQQ Y) (d + 9) 155 36 [some (.ref 0), some (.int (nI 5))] [] σ K := by
  have ne : ∀ c : Nat, c < 128 ∧ c ≠ 5 → ¬ nI 5 = nI c := fun c hc y => hc.2 ((nI_eq (by decide) (by omega)).mp y).symm
  have dq : mjY mjPP (mjQQ Y) (d + 8) 156 0 (mjL0 2 [.ref 0, .int (nI 5)]) [] σ K := by
    refine mjZ_y rfl rfl 12 _ _ _ _ ty ?_
    refine (bn_f (ne 2 (by decide)) (bn_f (ne 4 (by decide)) (bn_t rfl (And.intro (Nat.le_of_ble_eq_true rfl) (And.intro rfl (And.intro (Nat.le_of_ble_eq_true rfl) (And.intro (Nat.le_of_ble_eq_true rfl) (mjY_mono ty (fun q_ u1 ty1 h_ => ?_) (hh)))))))))
    have h1 := h_
    intro _
    obtain rfl := hK _ _ h1
    refine mjZ_y rfl rfl 2 _ _ _ _ ty1 ?_
    refine And.intro rfl (And.intro rfl ?_)
    exact h1
  refine mjZ_y rfl rfl 6 _ _ _ _ ty ?_
  refine (bk_f rfl (And.intro (Nat.le_of_ble_eq_true rfl) (And.intro rfl (And.intro (Nat.le_of_ble_eq_true rfl) (And.intro (Nat.le_of_ble_eq_true rfl) (mjY_mono ty (fun q_ u1 ty1 h_ => ?_) (dq)))))))
  have h1 := h_
  intro _
  obtain rfl := hK _ _ h1
  refine mjZ_y rfl rfl 2 _ _ _ _ ty1 ?_
  refine And.intro rfl (And.intro rfl ?_)
  exact h1
set_option maxRecDepth 100000 in
theorem dp_6 {σ : mjS} (ty : mjTY σ) {K : mjK} (hK : ∀ r u, K r u → r = none) (hh : mjY mjPP (mjQQ Y) (d + 7) 81 0 (mjL0 4 [.ref 0, .int (nI 6)]) [] σ K) : mjY mjPP (mjQQ Y) (d + 9) 155 36 [some (.ref 0), some (.int (nI 6))] [] σ K := by
  have ne : ∀ c : Nat, c < 128 ∧ c ≠ 6 → ¬ nI 6 = nI c := fun c hc y => hc.2 ((nI_eq (by decide) (by omega)).mp y).symm
  have dq : mjY mjPP (mjQQ Y) (d + 8) 156 0 (mjL0 2 [.ref 0, .int (nI 6)]) [] σ K := by
    refine mjZ_y rfl rfl 15 _ _ _ _ ty ?_
    refine (bn_f (ne 2 (by decide)) (bn_f (ne 4 (by decide)) (bn_f (ne 5 (by decide)) (bn_t rfl (And.intro (Nat.le_of_ble_eq_true rfl) (And.intro rfl (And.intro (Nat.le_of_ble_eq_true rfl) (And.intro (Nat.le_of_ble_eq_true rfl) (mjY_mono ty (fun q_ u1 ty1 h_ => ?_) (hh))))))))))
    have h1 := h_
    intro _
    obtain rfl := hK _ _ h1
    refine mjZ_y rfl rfl 2 _ _ _ _ ty1 ?_
    refine And.intro rfl (And.intro rfl ?_)
    exact h1
  refine mjZ_y rfl rfl 6 _ _ _ _ ty ?_
  refine (bk_f rfl (And.intro (Nat.le_of_ble_eq_true rfl) (And.intro rfl (And.intro (Nat.le_of_ble_eq_true rfl) (And.intro (Nat.le_of_ble_eq_true rfl) (mjY_mono ty (fun q_ u1 ty1 h_ => ?_) (dq)))))))
  have h1 := h_
  intro _
  obtain rfl := hK _ _ h1
  refine mjZ_y rfl rfl 2 _ _ _ _ ty1 ?_
  refine And.intro rfl (And.intro rfl ?_)
  exact h1
set_option maxRecDepth 100000 in
theorem dp_7 {σ : mjS} (ty : mjTY σ) {K : mjK} (hK : ∀ r u, K r u → r = none) (hh : mjY mjPP (mjQQ Y) (d + 7) 81 0 (mjL0 4 [.ref 0, .int (nI 7)]) [] σ K) : mjY mjPP (mjQQ Y) (d + 9) 155 36 [some (.ref 0), some (.int (nI 7))] [] σ K := by
  have ne : ∀ c : Nat, c < 128 ∧ c ≠ 7 → ¬ nI 7 = nI c := fun c hc y => hc.2 ((nI_eq (by decide) (by omega)).mp y).symm
  have dq : mjY mjPP (mjQQ Y) (d + 8) 156 0 (mjL0 2 [.ref 0, .int (nI 7)]) [] σ K := by
    refine mjZ_y rfl rfl 18 _ _ _ _ ty ?_
    refine (bn_f (ne 2 (by decide)) (bn_f (ne 4 (by decide)) (bn_f (ne 5 (by decide)) (bn_f (ne 6 (by decide)) (bn_f (fun n => n rfl) (And.intro (Nat.le_of_ble_eq_true rfl) (And.intro rfl (And.intro (Nat.le_of_ble_eq_true rfl) (And.intro (Nat.le_of_ble_eq_true rfl) (mjY_mono ty (fun q_ u1 ty1 h_ => ?_) (hh)))))))))))
    have h1 := h_
    intro _
    obtain rfl := hK _ _ h1
    refine mjZ_y rfl rfl 2 _ _ _ _ ty1 ?_
    refine And.intro rfl (And.intro rfl ?_)
    exact h1
  refine mjZ_y rfl rfl 6 _ _ _ _ ty ?_
  refine (bk_f rfl (And.intro (Nat.le_of_ble_eq_true rfl) (And.intro rfl (And.intro (Nat.le_of_ble_eq_true rfl) (And.intro (Nat.le_of_ble_eq_true rfl) (mjY_mono ty (fun q_ u1 ty1 h_ => ?_) (dq)))))))
  have h1 := h_
  intro _
  obtain rfl := hK _ _ h1
  refine mjZ_y rfl rfl 2 _ _ _ _ ty1 ?_
  refine And.intro rfl (And.intro rfl ?_)
  exact h1
set_option maxRecDepth 100000 in
theorem dp_8 {σ : mjS} (ty : mjTY σ) {K : mjK} (hK : ∀ r u, K r u → r = none) (hh : mjY mjPP (mjQQ Y) (d + 7) 93 0 (mjL0 3 [.ref 0]) [] σ K) : mjY mjPP (mjQQ Y) (d + 9) 155 36 [some (.ref 0), some (.int (nI 8))] [] σ K := by
  have ne : ∀ c : Nat, c < 128 ∧ c ≠ 8 → ¬ nI 8 = nI c := fun c hc y => hc.2 ((nI_eq (by decide) (by omega)).mp y).symm
  have dq : mjY mjPP (mjQQ Y) (d + 8) 156 0 (mjL0 2 [.ref 0, .int (nI 8)]) [] σ K := by
    refine mjZ_y rfl rfl 20 _ _ _ _ ty ?_
    refine (bn_f (ne 2 (by decide)) (bn_f (ne 4 (by decide)) (bn_f (ne 5 (by decide)) (bn_f (ne 6 (by decide)) (bn_t (ne 7 (by decide)) (bn_f (fun n => n rfl) (And.intro (Nat.le_of_ble_eq_true rfl) (And.intro rfl (And.intro (Nat.le_of_ble_eq_true rfl) (And.intro (Nat.le_of_ble_eq_true rfl) (mjY_mono ty (fun q_ u1 ty1 h_ => ?_) (hh))))))))))))
    have h1 := h_
    intro _
    obtain rfl := hK _ _ h1
    refine mjZ_y rfl rfl 2 _ _ _ _ ty1 ?_
    refine And.intro rfl (And.intro rfl ?_)
    exact h1
  refine mjZ_y rfl rfl 6 _ _ _ _ ty ?_
  refine (bk_f rfl (And.intro (Nat.le_of_ble_eq_true rfl) (And.intro rfl (And.intro (Nat.le_of_ble_eq_true rfl) (And.intro (Nat.le_of_ble_eq_true rfl) (mjY_mono ty (fun q_ u1 ty1 h_ => ?_) (dq)))))))
  have h1 := h_
  intro _
  obtain rfl := hK _ _ h1
  refine mjZ_y rfl rfl 2 _ _ _ _ ty1 ?_
  refine And.intro rfl (And.intro rfl ?_)
  exact h1
set_option maxRecDepth 100000 in
theorem dp_9 {σ : mjS} (ty : mjTY σ) {K : mjK} (hK : ∀ r u, K r u → r = none) (hh : mjY mjPP (mjQQ Y) (d + 7) 82 0 (mjL0 4 [.ref 0, .int (nI 9)]) [] σ K) : mjY mjPP (mjQQ Y) (d + 9) 155 36 [some (.ref 0), some (.int (nI 9))] [] σ K := by
  have ne : ∀ c : Nat, c < 128 ∧ c ≠ 9 → ¬ nI 9 = nI c := fun c hc y => hc.2 ((nI_eq (by decide) (by omega)).mp y).symm
  have dq : mjY mjPP (mjQQ Y) (d + 8) 156 0 (mjL0 2 [.ref 0, .int (nI 9)]) [] σ K := by
    refine mjZ_y rfl rfl 24 _ _ _ _ ty ?_
    refine (bn_f (ne 2 (by decide)) (bn_f (ne 4 (by decide)) (bn_f (ne 5 (by decide)) (bn_f (ne 6 (by decide)) (bn_t (ne 7 (by decide)) (bn_t (ne 8 (by decide)) (bn_t rfl (And.intro (Nat.le_of_ble_eq_true rfl) (And.intro rfl (And.intro (Nat.le_of_ble_eq_true rfl) (And.intro (Nat.le_of_ble_eq_true rfl) (mjY_mono ty (fun q_ u1 ty1 h_ => ?_) (hh)))))))))))))
    have h1 := h_
    intro _
    obtain rfl := hK _ _ h1
    refine mjZ_y rfl rfl 2 _ _ _ _ ty1 ?_
    refine And.intro rfl (And.intro rfl ?_)
    exact h1
  refine mjZ_y rfl rfl 6 _ _ _ _ ty ?_
  refine (bk_f rfl (And.intro (Nat.le_of_ble_eq_true rfl) (And.intro rfl (And.intro (Nat.le_of_ble_eq_true rfl) (And.intro (Nat.le_of_ble_eq_true rfl) (mjY_mono ty (fun q_ u1 ty1 h_ => ?_) (dq)))))))
  have h1 := h_
  intro _
  obtain rfl := hK _ _ h1
  refine mjZ_y rfl rfl 2 _ _ _ _ ty1 ?_
  refine And.intro rfl (And.intro rfl ?_)
  exact h1
set_option maxRecDepth 100000 in
theorem dp_10 {σ : mjS} (ty : mjTY σ) {K : mjK} (hK : ∀ r u, K r u → r = none) (hh : mjY mjPP (mjQQ Y) (d + 7) 82 0 (mjL0 4 [.ref 0, .int (nI 10)]) [] σ K) : mjY mjPP (mjQQ Y) (d + 9) 155 36 [some (.ref 0), some (.int (nI 10))] [] σ K := by
  have ne : ∀ c : Nat, c < 128 ∧ c ≠ 10 → ¬ nI 10 = nI c := fun c hc y => hc.2 ((nI_eq (by decide) (by omega)).mp y).symm
  have dq : mjY mjPP (mjQQ Y) (d + 8) 156 0 (mjL0 2 [.ref 0, .int (nI 10)]) [] σ K := by
    refine mjZ_y rfl rfl 27 _ _ _ _ ty ?_
    refine (bn_f (ne 2 (by decide)) (bn_f (ne 4 (by decide)) (bn_f (ne 5 (by decide)) (bn_f (ne 6 (by decide)) (bn_t (ne 7 (by decide)) (bn_t (ne 8 (by decide)) (bn_f (ne 9 (by decide)) (bn_f (fun n => n rfl) (And.intro (Nat.le_of_ble_eq_true rfl) (And.intro rfl (And.intro (Nat.le_of_ble_eq_true rfl) (And.intro (Nat.le_of_ble_eq_true rfl) (mjY_mono ty (fun q_ u1 ty1 h_ => ?_) (hh))))))))))))))
    have h1 := h_
    intro _
    obtain rfl := hK _ _ h1
    refine mjZ_y rfl rfl 2 _ _ _ _ ty1 ?_
    refine And.intro rfl (And.intro rfl ?_)
    exact h1
  refine mjZ_y rfl rfl 6 _ _ _ _ ty ?_
  refine (bk_f rfl (And.intro (Nat.le_of_ble_eq_true rfl) (And.intro rfl (And.intro (Nat.le_of_ble_eq_true rfl) (And.intro (Nat.le_of_ble_eq_true rfl) (mjY_mono ty (fun q_ u1 ty1 h_ => ?_) (dq)))))))
  have h1 := h_
  intro _
  obtain rfl := hK _ _ h1
  refine mjZ_y rfl rfl 2 _ _ _ _ ty1 ?_
  refine And.intro rfl (And.intro rfl ?_)
  exact h1
set_option maxRecDepth 100000 in
theorem dp_11 {σ : mjS} (ty : mjTY σ) {K : mjK} (hK : ∀ r u, K r u → r = none) (hh : mjY mjPP (mjQQ Y) (d + 7) 86 0 (mjL0 2 [.ref 0]) [] σ K) : mjY mjPP (mjQQ Y) (d + 9) 155 36 [some (.ref 0), some (.int (nI 11))] [] σ K := by
  have ne : ∀ c : Nat, c < 128 ∧ c ≠ 11 → ¬ nI 11 = nI c := fun c hc y => hc.2 ((nI_eq (by decide) (by omega)).mp y).symm
  have dq : mjY mjPP (mjQQ Y) (d + 8) 156 0 (mjL0 2 [.ref 0, .int (nI 11)]) [] σ K := by
    refine mjZ_y rfl rfl 29 _ _ _ _ ty ?_
    refine (bn_f (ne 2 (by decide)) (bn_f (ne 4 (by decide)) (bn_f (ne 5 (by decide)) (bn_f (ne 6 (by decide)) (bn_t (ne 7 (by decide)) (bn_t (ne 8 (by decide)) (bn_f (ne 9 (by decide)) (bn_t (ne 10 (by decide)) (bn_f (fun n => n rfl) (And.intro (Nat.le_of_ble_eq_true rfl) (And.intro rfl (And.intro (Nat.le_of_ble_eq_true rfl) (And.intro (Nat.le_of_ble_eq_true rfl) (mjY_mono ty (fun q_ u1 ty1 h_ => ?_) (hh)))))))))))))))
    have h1 := h_
    intro _
    obtain rfl := hK _ _ h1
    refine mjZ_y rfl rfl 2 _ _ _ _ ty1 ?_
    refine And.intro rfl (And.intro rfl ?_)
    exact h1
  refine mjZ_y rfl rfl 6 _ _ _ _ ty ?_
  refine (bk_f rfl (And.intro (Nat.le_of_ble_eq_true rfl) (And.intro rfl (And.intro (Nat.le_of_ble_eq_true rfl) (And.intro (Nat.le_of_ble_eq_true rfl) (mjY_mono ty (fun q_ u1 ty1 h_ => ?_) (dq)))))))
  have h1 := h_
  intro _
  obtain rfl := hK _ _ h1
  refine mjZ_y rfl rfl 2 _ _ _ _ ty1 ?_
  refine And.intro rfl (And.intro rfl ?_)
  exact h1
set_option maxRecDepth 100000 in
theorem dp_12 {σ : mjS} (ty : mjTY σ) {K : mjK} (hK : ∀ r u, K r u → r = none) (hh : mjY mjPP (mjQQ Y) (d + 7) 92 0 (mjL0 6 [.ref 0, .int (nI 12)]) [] σ K) : mjY mjPP (mjQQ Y) (d + 9) 155 36 [some (.ref 0), some (.int (nI 12))] [] σ K := by
  have ne : ∀ c : Nat, c < 128 ∧ c ≠ 12 → ¬ nI 12 = nI c := fun c hc y => hc.2 ((nI_eq (by decide) (by omega)).mp y).symm
  have dq : mjY mjPP (mjQQ Y) (d + 8) 156 0 (mjL0 2 [.ref 0, .int (nI 12)]) [] σ K := by
    refine mjZ_y rfl rfl 39 _ _ _ _ ty ?_
    refine (bn_f (ne 2 (by decide)) (bn_f (ne 4 (by decide)) (bn_f (ne 5 (by decide)) (bn_f (ne 6 (by decide)) (bn_t (ne 7 (by decide)) (bn_t (ne 8 (by decide)) (bn_f (ne 9 (by decide)) (bn_t (ne 10 (by decide)) (bn_t (ne 11 (by decide)) (bn_t (ne 14 (by decide)) (bk_t rfl (bn_t (ne 19 (by decide)) (And.intro (Nat.le_of_ble_eq_true rfl) (And.intro rfl (And.intro (Nat.le_of_ble_eq_true rfl) (And.intro (Nat.le_of_ble_eq_true rfl) (mjY_mono ty (fun q_ u1 ty1 h_ => ?_) (hh))))))))))))))))))
    have h1 := h_
    intro _
    obtain rfl := hK _ _ h1
    refine mjZ_y rfl rfl 1 _ _ _ _ ty1 ?_
    refine And.intro rfl (And.intro rfl ?_)
    exact h1
  refine mjZ_y rfl rfl 6 _ _ _ _ ty ?_
  refine (bk_f rfl (And.intro (Nat.le_of_ble_eq_true rfl) (And.intro rfl (And.intro (Nat.le_of_ble_eq_true rfl) (And.intro (Nat.le_of_ble_eq_true rfl) (mjY_mono ty (fun q_ u1 ty1 h_ => ?_) (dq)))))))
  have h1 := h_
  intro _
  obtain rfl := hK _ _ h1
  refine mjZ_y rfl rfl 2 _ _ _ _ ty1 ?_
  refine And.intro rfl (And.intro rfl ?_)
  exact h1
set_option maxRecDepth 100000 in
theorem dp_13 {σ : mjS} (ty : mjTY σ) {K : mjK} (hK : ∀ r u, K r u → r = none) (hh : mjY mjPP (mjQQ Y) (d + 7) 92 0 (mjL0 6 [.ref 0, .int (nI 13)]) [] σ K) : mjY mjPP (mjQQ Y) (d + 9) 155 36 [some (.ref 0), some (.int (nI 13))] [] σ K := by
  have ne : ∀ c : Nat, c < 128 ∧ c ≠ 13 → ¬ nI 13 = nI c := fun c hc y => hc.2 ((nI_eq (by decide) (by omega)).mp y).symm
  have dq : mjY mjPP (mjQQ Y) (d + 8) 156 0 (mjL0 2 [.ref 0, .int (nI 13)]) [] σ K := by
    refine mjZ_y rfl rfl 39 _ _ _ _ ty ?_
    refine (bn_f (ne 2 (by decide)) (bn_f (ne 4 (by decide)) (bn_f (ne 5 (by decide)) (bn_f (ne 6 (by decide)) (bn_t (ne 7 (by decide)) (bn_t (ne 8 (by decide)) (bn_f (ne 9 (by decide)) (bn_t (ne 10 (by decide)) (bn_t (ne 11 (by decide)) (bn_t (ne 14 (by decide)) (bk_t rfl (bn_t (ne 19 (by decide)) (And.intro (Nat.le_of_ble_eq_true rfl) (And.intro rfl (And.intro (Nat.le_of_ble_eq_true rfl) (And.intro (Nat.le_of_ble_eq_true rfl) (mjY_mono ty (fun q_ u1 ty1 h_ => ?_) (hh))))))))))))))))))
    have h1 := h_
    intro _
    obtain rfl := hK _ _ h1
    refine mjZ_y rfl rfl 1 _ _ _ _ ty1 ?_
    refine And.intro rfl (And.intro rfl ?_)
    exact h1
  refine mjZ_y rfl rfl 6 _ _ _ _ ty ?_
  refine (bk_f rfl (And.intro (Nat.le_of_ble_eq_true rfl) (And.intro rfl (And.intro (Nat.le_of_ble_eq_true rfl) (And.intro (Nat.le_of_ble_eq_true rfl) (mjY_mono ty (fun q_ u1 ty1 h_ => ?_) (dq)))))))
  have h1 := h_
  intro _
  obtain rfl := hK _ _ h1
  refine mjZ_y rfl rfl 2 _ _ _ _ ty1 ?_
  refine And.intro rfl (And.intro rfl ?_)
  exact h1
set_option maxRecDepth 100000 in
theorem dp_14 {σ : mjS} (ty : mjTY σ) {K : mjK} (hK : ∀ r u, K r u → r = none) (hh : mjY mjPP (mjQQ Y) (d + 7) 87 0 (mjL0 4 [.ref 0]) [] σ K) : mjY mjPP (mjQQ Y) (d + 9) 155 36 [some (.ref 0), some (.int (nI 14))] [] σ K := by
  have ne : ∀ c : Nat, c < 128 ∧ c ≠ 14 → ¬ nI 14 = nI c := fun c hc y => hc.2 ((nI_eq (by decide) (by omega)).mp y).symm
  have dq : mjY mjPP (mjQQ Y) (d + 8) 156 0 (mjL0 2 [.ref 0, .int (nI 14)]) [] σ K := by
    refine mjZ_y rfl rfl 32 _ _ _ _ ty ?_
    refine (bn_f (ne 2 (by decide)) (bn_f (ne 4 (by decide)) (bn_f (ne 5 (by decide)) (bn_f (ne 6 (by decide)) (bn_t (ne 7 (by decide)) (bn_t (ne 8 (by decide)) (bn_f (ne 9 (by decide)) (bn_t (ne 10 (by decide)) (bn_t (ne 11 (by decide)) (bn_f (fun n => n rfl) (And.intro (Nat.le_of_ble_eq_true rfl) (And.intro rfl (And.intro (Nat.le_of_ble_eq_true rfl) (And.intro (Nat.le_of_ble_eq_true rfl) (mjY_mono ty (fun q_ u1 ty1 h_ => ?_) (hh))))))))))))))))
    have h1 := h_
    intro _
    obtain rfl := hK _ _ h1
    refine mjZ_y rfl rfl 2 _ _ _ _ ty1 ?_
    refine And.intro rfl (And.intro rfl ?_)
    exact h1
  refine mjZ_y rfl rfl 6 _ _ _ _ ty ?_
  refine (bk_f rfl (And.intro (Nat.le_of_ble_eq_true rfl) (And.intro rfl (And.intro (Nat.le_of_ble_eq_true rfl) (And.intro (Nat.le_of_ble_eq_true rfl) (mjY_mono ty (fun q_ u1 ty1 h_ => ?_) (dq)))))))
  have h1 := h_
  intro _
  obtain rfl := hK _ _ h1
  refine mjZ_y rfl rfl 2 _ _ _ _ ty1 ?_
  refine And.intro rfl (And.intro rfl ?_)
  exact h1
set_option maxRecDepth 100000 in
theorem dp_15 {σ : mjS} (ty : mjTY σ) {K : mjK} (hK : ∀ r u, K r u → r = none) (hh : mjY mjPP (mjQQ Y) (d + 7) 90 0 (mjL0 11 [.ref 0, .int (nI 15)]) [] σ K) : mjY mjPP (mjQQ Y) (d + 9) 155 36 [some (.ref 0), some (.int (nI 15))] [] σ K := by
  have ne : ∀ c : Nat, c < 128 ∧ c ≠ 15 → ¬ nI 15 = nI c := fun c hc y => hc.2 ((nI_eq (by decide) (by omega)).mp y).symm
  have dq : mjY mjPP (mjQQ Y) (d + 8) 156 0 (mjL0 2 [.ref 0, .int (nI 15)]) [] σ K := by
    refine mjZ_y rfl rfl 39 _ _ _ _ ty ?_
    refine (bn_f (ne 2 (by decide)) (bn_f (ne 4 (by decide)) (bn_f (ne 5 (by decide)) (bn_f (ne 6 (by decide)) (bn_t (ne 7 (by decide)) (bn_t (ne 8 (by decide)) (bn_f (ne 9 (by decide)) (bn_t (ne 10 (by decide)) (bn_t (ne 11 (by decide)) (bn_t (ne 14 (by decide)) (bk_f rfl (bk_f rfl (And.intro (Nat.le_of_ble_eq_true rfl) (And.intro rfl (And.intro (Nat.le_of_ble_eq_true rfl) (And.intro (Nat.le_of_ble_eq_true rfl) (mjY_mono ty (fun q_ u1 ty1 h_ => ?_) (hh))))))))))))))))))
    have h1 := h_
    intro _
    obtain rfl := hK _ _ h1
    refine mjZ_y rfl rfl 2 _ _ _ _ ty1 ?_
    refine And.intro rfl (And.intro rfl ?_)
    exact h1
  refine mjZ_y rfl rfl 6 _ _ _ _ ty ?_
  refine (bk_f rfl (And.intro (Nat.le_of_ble_eq_true rfl) (And.intro rfl (And.intro (Nat.le_of_ble_eq_true rfl) (And.intro (Nat.le_of_ble_eq_true rfl) (mjY_mono ty (fun q_ u1 ty1 h_ => ?_) (dq)))))))
  have h1 := h_
  intro _
  obtain rfl := hK _ _ h1
  refine mjZ_y rfl rfl 2 _ _ _ _ ty1 ?_
  refine And.intro rfl (And.intro rfl ?_)
  exact h1
set_option maxRecDepth 100000 in
theorem dp_16 {σ : mjS} (ty : mjTY σ) {K : mjK} (hK : ∀ r u, K r u → r = none) (hh : mjY mjPP (mjQQ Y) (d + 7) 90 0 (mjL0 11 [.ref 0, .int (nI 16)]) [] σ K) : mjY mjPP (mjQQ Y) (d + 9) 155 36 [some (.ref 0), some (.int (nI 16))] [] σ K := by
  have ne : ∀ c : Nat, c < 128 ∧ c ≠ 16 → ¬ nI 16 = nI c := fun c hc y => hc.2 ((nI_eq (by decide) (by omega)).mp y).symm
  have dq : mjY mjPP (mjQQ Y) (d + 8) 156 0 (mjL0 2 [.ref 0, .int (nI 16)]) [] σ K := by
    refine mjZ_y rfl rfl 39 _ _ _ _ ty ?_
    refine (bn_f (ne 2 (by decide)) (bn_f (ne 4 (by decide)) (bn_f (ne 5 (by decide)) (bn_f (ne 6 (by decide)) (bn_t (ne 7 (by decide)) (bn_t (ne 8 (by decide)) (bn_f (ne 9 (by decide)) (bn_t (ne 10 (by decide)) (bn_t (ne 11 (by decide)) (bn_t (ne 14 (by decide)) (bk_f rfl (bk_f rfl (And.intro (Nat.le_of_ble_eq_true rfl) (And.intro rfl (And.intro (Nat.le_of_ble_eq_true rfl) (And.intro (Nat.le_of_ble_eq_true rfl) (mjY_mono ty (fun q_ u1 ty1 h_ => ?_) (hh))))))))))))))))))
    have h1 := h_
    intro _
    obtain rfl := hK _ _ h1
    refine mjZ_y rfl rfl 2 _ _ _ _ ty1 ?_
    refine And.intro rfl (And.intro rfl ?_)
    exact h1
  refine mjZ_y rfl rfl 6 _ _ _ _ ty ?_
  refine (bk_f rfl (And.intro (Nat.le_of_ble_eq_true rfl) (And.intro rfl (And.intro (Nat.le_of_ble_eq_true rfl) (And.intro (Nat.le_of_ble_eq_true rfl) (mjY_mono ty (fun q_ u1 ty1 h_ => ?_) (dq)))))))
  have h1 := h_
  intro _
  obtain rfl := hK _ _ h1
  refine mjZ_y rfl rfl 2 _ _ _ _ ty1 ?_
  refine And.intro rfl (And.intro rfl ?_)
  exact h1
set_option maxRecDepth 100000 in
theorem dp_17 {σ : mjS} (ty : mjTY σ) {K : mjK} (hK : ∀ r u, K r u → r = none) (hh : mjY mjPP (mjQQ Y) (d + 7) 90 0 (mjL0 11 [.ref 0, .int (nI 17)]) [] σ K) : mjY mjPP (mjQQ Y) (d + 9) 155 36 [some (.ref 0), some (.int (nI 17))] [] σ K := by
  have ne : ∀ c : Nat, c < 128 ∧ c ≠ 17 → ¬ nI 17 = nI c := fun c hc y => hc.2 ((nI_eq (by decide) (by omega)).mp y).symm
  have dq : mjY mjPP (mjQQ Y) (d + 8) 156 0 (mjL0 2 [.ref 0, .int (nI 17)]) [] σ K := by
    refine mjZ_y rfl rfl 39 _ _ _ _ ty ?_
    refine (bn_f (ne 2 (by decide)) (bn_f (ne 4 (by decide)) (bn_f (ne 5 (by decide)) (bn_f (ne 6 (by decide)) (bn_t (ne 7 (by decide)) (bn_t (ne 8 (by decide)) (bn_f (ne 9 (by decide)) (bn_t (ne 10 (by decide)) (bn_t (ne 11 (by decide)) (bn_t (ne 14 (by decide)) (bk_f rfl (bk_f rfl (And.intro (Nat.le_of_ble_eq_true rfl) (And.intro rfl (And.intro (Nat.le_of_ble_eq_true rfl) (And.intro (Nat.le_of_ble_eq_true rfl) (mjY_mono ty (fun q_ u1 ty1 h_ => ?_) (hh))))))))))))))))))
    have h1 := h_
    intro _
    obtain rfl := hK _ _ h1
    refine mjZ_y rfl rfl 2 _ _ _ _ ty1 ?_
    refine And.intro rfl (And.intro rfl ?_)
    exact h1
  refine mjZ_y rfl rfl 6 _ _ _ _ ty ?_
  refine (bk_f rfl (And.intro (Nat.le_of_ble_eq_true rfl) (And.intro rfl (And.intro (Nat.le_of_ble_eq_true rfl) (And.intro (Nat.le_of_ble_eq_true rfl) (mjY_mono ty (fun q_ u1 ty1 h_ => ?_) (dq)))))))
  have h1 := h_
  intro _
  obtain rfl := hK _ _ h1
  refine mjZ_y rfl rfl 2 _ _ _ _ ty1 ?_
  refine And.intro rfl (And.intro rfl ?_)
  exact h1
set_option maxRecDepth 100000 in
theorem dp_18 {σ : mjS} (ty : mjTY σ) {K : mjK} (hK : ∀ r u, K r u → r = none) (hh : mjY mjPP (mjQQ Y) (d + 7) 90 0 (mjL0 11 [.ref 0, .int (nI 18)]) [] σ K) : mjY mjPP (mjQQ Y) (d + 9) 155 36 [some (.ref 0), some (.int (nI 18))] [] σ K := by
  have ne : ∀ c : Nat, c < 128 ∧ c ≠ 18 → ¬ nI 18 = nI c := fun c hc y => hc.2 ((nI_eq (by decide) (by omega)).mp y).symm
  have dq : mjY mjPP (mjQQ Y) (d + 8) 156 0 (mjL0 2 [.ref 0, .int (nI 18)]) [] σ K := by
    refine mjZ_y rfl rfl 39 _ _ _ _ ty ?_
    refine (bn_f (ne 2 (by decide)) (bn_f (ne 4 (by decide)) (bn_f (ne 5 (by decide)) (bn_f (ne 6 (by decide)) (bn_t (ne 7 (by decide)) (bn_t (ne 8 (by decide)) (bn_f (ne 9 (by decide)) (bn_t (ne 10 (by decide)) (bn_t (ne 11 (by decide)) (bn_t (ne 14 (by decide)) (bk_f rfl (bk_f rfl (And.intro (Nat.le_of_ble_eq_true rfl) (And.intro rfl (And.intro (Nat.le_of_ble_eq_true rfl) (And.intro (Nat.le_of_ble_eq_true rfl) (mjY_mono ty (fun q_ u1 ty1 h_ => ?_) (hh))))))))))))))))))
    have h1 := h_
    intro _
    obtain rfl := hK _ _ h1
    refine mjZ_y rfl rfl 2 _ _ _ _ ty1 ?_
    refine And.intro rfl (And.intro rfl ?_)
    exact h1
  refine mjZ_y rfl rfl 6 _ _ _ _ ty ?_
  refine (bk_f rfl (And.intro (Nat.le_of_ble_eq_true rfl) (And.intro rfl (And.intro (Nat.le_of_ble_eq_true rfl) (And.intro (Nat.le_of_ble_eq_true rfl) (mjY_mono ty (fun q_ u1 ty1 h_ => ?_) (dq)))))))
  have h1 := h_
  intro _
  obtain rfl := hK _ _ h1
  refine mjZ_y rfl rfl 2 _ _ _ _ ty1 ?_
  refine And.intro rfl (And.intro rfl ?_)
  exact h1
set_option maxRecDepth 100000 in
theorem dp_19 {σ : mjS} (ty : mjTY σ) {K : mjK} (hK : ∀ r u, K r u → r = none) (hh : mjY mjPP (mjQQ Y) (d + 7) 91 0 (mjL0 4 [.ref 0]) [] σ K) : mjY mjPP (mjQQ Y) (d + 9) 155 36 [some (.ref 0), some (.int (nI 19))] [] σ K := by
  have ne : ∀ c : Nat, c < 128 ∧ c ≠ 19 → ¬ nI 19 = nI c := fun c hc y => hc.2 ((nI_eq (by decide) (by omega)).mp y).symm
  have dq : mjY mjPP (mjQQ Y) (d + 8) 156 0 (mjL0 2 [.ref 0, .int (nI 19)]) [] σ K := by
    refine mjZ_y rfl rfl 41 _ _ _ _ ty ?_
    refine (bn_f (ne 2 (by decide)) (bn_f (ne 4 (by decide)) (bn_f (ne 5 (by decide)) (bn_f (ne 6 (by decide)) (bn_t (ne 7 (by decide)) (bn_t (ne 8 (by decide)) (bn_f (ne 9 (by decide)) (bn_t (ne 10 (by decide)) (bn_t (ne 11 (by decide)) (bn_t (ne 14 (by decide)) (bk_f rfl (bk_t rfl (bn_f (fun n => n rfl) (And.intro (Nat.le_of_ble_eq_true rfl) (And.intro rfl (And.intro (Nat.le_of_ble_eq_true rfl) (And.intro (Nat.le_of_ble_eq_true rfl) (mjY_mono ty (fun q_ u1 ty1 h_ => ?_) (hh)))))))))))))))))))
    have h1 := h_
    intro _
    obtain rfl := hK _ _ h1
    refine mjZ_y rfl rfl 2 _ _ _ _ ty1 ?_
    refine And.intro rfl (And.intro rfl ?_)
    exact h1
  refine mjZ_y rfl rfl 6 _ _ _ _ ty ?_
  refine (bk_f rfl (And.intro (Nat.le_of_ble_eq_true rfl) (And.intro rfl (And.intro (Nat.le_of_ble_eq_true rfl) (And.intro (Nat.le_of_ble_eq_true rfl) (mjY_mono ty (fun q_ u1 ty1 h_ => ?_) (dq)))))))
  have h1 := h_
  intro _
  obtain rfl := hK _ _ h1
  refine mjZ_y rfl rfl 2 _ _ _ _ ty1 ?_
  refine And.intro rfl (And.intro rfl ?_)
  exact h1
set_option maxRecDepth 100000 in
theorem dp_20 {σ : mjS} (ty : mjTY σ) {K : mjK} (hK : ∀ r u, K r u → r = none) (hh : mjY mjPP (mjQQ Y) (d + 7) 92 0 (mjL0 6 [.ref 0, .int (nI 20)]) [] σ K) : mjY mjPP (mjQQ Y) (d + 9) 155 36 [some (.ref 0), some (.int (nI 20))] [] σ K := by
  have ne : ∀ c : Nat, c < 128 ∧ c ≠ 20 → ¬ nI 20 = nI c := fun c hc y => hc.2 ((nI_eq (by decide) (by omega)).mp y).symm
  have dq : mjY mjPP (mjQQ Y) (d + 8) 156 0 (mjL0 2 [.ref 0, .int (nI 20)]) [] σ K := by
    refine mjZ_y rfl rfl 42 _ _ _ _ ty ?_
    refine (bn_f (ne 2 (by decide)) (bn_f (ne 4 (by decide)) (bn_f (ne 5 (by decide)) (bn_f (ne 6 (by decide)) (bn_t (ne 7 (by decide)) (bn_t (ne 8 (by decide)) (bn_f (ne 9 (by decide)) (bn_t (ne 10 (by decide)) (bn_t (ne 11 (by decide)) (bn_t (ne 14 (by decide)) (bk_f rfl (bk_t rfl (bn_t (ne 19 (by decide)) (And.intro (Nat.le_of_ble_eq_true rfl) (And.intro rfl (And.intro (Nat.le_of_ble_eq_true rfl) (And.intro (Nat.le_of_ble_eq_true rfl) (mjY_mono ty (fun q_ u1 ty1 h_ => ?_) (hh)))))))))))))))))))
    have h1 := h_
    intro _
    obtain rfl := hK _ _ h1
    refine mjZ_y rfl rfl 1 _ _ _ _ ty1 ?_
    refine And.intro rfl (And.intro rfl ?_)
    exact h1
  refine mjZ_y rfl rfl 6 _ _ _ _ ty ?_
  refine (bk_f rfl (And.intro (Nat.le_of_ble_eq_true rfl) (And.intro rfl (And.intro (Nat.le_of_ble_eq_true rfl) (And.intro (Nat.le_of_ble_eq_true rfl) (mjY_mono ty (fun q_ u1 ty1 h_ => ?_) (dq)))))))
  have h1 := h_
  intro _
  obtain rfl := hK _ _ h1
  refine mjZ_y rfl rfl 2 _ _ _ _ ty1 ?_
  refine And.intro rfl (And.intro rfl ?_)
  exact h1
set_option maxRecDepth 100000 in
theorem dp_21 {σ : mjS} (ty : mjTY σ) {K : mjK} (hK : ∀ r u, K r u → r = none) (hh : mjY mjPP (mjQQ Y) (d + 7) 92 0 (mjL0 6 [.ref 0, .int (nI 21)]) [] σ K) : mjY mjPP (mjQQ Y) (d + 9) 155 36 [some (.ref 0), some (.int (nI 21))] [] σ K := by
  have ne : ∀ c : Nat, c < 128 ∧ c ≠ 21 → ¬ nI 21 = nI c := fun c hc y => hc.2 ((nI_eq (by decide) (by omega)).mp y).symm
  have dq : mjY mjPP (mjQQ Y) (d + 8) 156 0 (mjL0 2 [.ref 0, .int (nI 21)]) [] σ K := by
    refine mjZ_y rfl rfl 42 _ _ _ _ ty ?_
    refine (bn_f (ne 2 (by decide)) (bn_f (ne 4 (by decide)) (bn_f (ne 5 (by decide)) (bn_f (ne 6 (by decide)) (bn_t (ne 7 (by decide)) (bn_t (ne 8 (by decide)) (bn_f (ne 9 (by decide)) (bn_t (ne 10 (by decide)) (bn_t (ne 11 (by decide)) (bn_t (ne 14 (by decide)) (bk_f rfl (bk_t rfl (bn_t (ne 19 (by decide)) (And.intro (Nat.le_of_ble_eq_true rfl) (And.intro rfl (And.intro (Nat.le_of_ble_eq_true rfl) (And.intro (Nat.le_of_ble_eq_true rfl) (mjY_mono ty (fun q_ u1 ty1 h_ => ?_) (hh)))))))))))))))))))
    have h1 := h_
    intro _
    obtain rfl := hK _ _ h1
    refine mjZ_y rfl rfl 1 _ _ _ _ ty1 ?_
    refine And.intro rfl (And.intro rfl ?_)
    exact h1
  refine mjZ_y rfl rfl 6 _ _ _ _ ty ?_
  refine (bk_f rfl (And.intro (Nat.le_of_ble_eq_true rfl) (And.intro rfl (And.intro (Nat.le_of_ble_eq_true rfl) (And.intro (Nat.le_of_ble_eq_true rfl) (mjY_mono ty (fun q_ u1 ty1 h_ => ?_) (dq)))))))
  have h1 := h_
  intro _
  obtain rfl := hK _ _ h1
  refine mjZ_y rfl rfl 2 _ _ _ _ ty1 ?_
  refine And.intro rfl (And.intro rfl ?_)
  exact h1
set_option maxRecDepth 100000 in
theorem dp_22 {σ : mjS} (ty : mjTY σ) {K : mjK} (hK : ∀ r u, K r u → r = none) (hh : mjY mjPP (mjQQ Y) (d + 7) 97 0 (mjL0 4 [.ref 0]) [] σ K) : mjY mjPP (mjQQ Y) (d + 9) 155 36 [some (.ref 0), some (.int (nI 22))] [] σ K := by
  have ne : ∀ c : Nat, c < 128 ∧ c ≠ 22 → ¬ nI 22 = nI c := fun c hc y => hc.2 ((nI_eq (by decide) (by omega)).mp y).symm
  have dq : mjY mjPP (mjQQ Y) (d + 8) 157 0 (mjL0 4 [.ref 0, .int (nI 22)]) [] σ K := by
    refine mjZ_y rfl rfl 5 _ _ _ _ ty ?_
    refine (bn_f (fun n => n rfl) (And.intro (Nat.le_of_ble_eq_true rfl) (And.intro rfl (And.intro (Nat.le_of_ble_eq_true rfl) (And.intro (Nat.le_of_ble_eq_true rfl) (mjY_mono ty (fun q_ u1 ty1 h_ => ?_) (hh)))))))
    have h1 := h_
    intro _
    obtain rfl := hK _ _ h1
    refine mjZ_y rfl rfl 2 _ _ _ _ ty1 ?_
    refine And.intro rfl (And.intro rfl ?_)
    exact h1
  refine mjZ_y rfl rfl 9 _ _ _ _ ty ?_
  refine (bk_t rfl (bk_f rfl (And.intro (Nat.le_of_ble_eq_true rfl) (And.intro rfl (And.intro (Nat.le_of_ble_eq_true rfl) (And.intro (Nat.le_of_ble_eq_true rfl) (mjY_mono ty (fun q_ u1 ty1 h_ => ?_) (dq))))))))
  have h1 := h_
  intro _
  obtain rfl := hK _ _ h1
  refine mjZ_y rfl rfl 2 _ _ _ _ ty1 ?_
  refine And.intro rfl (And.intro rfl ?_)
  exact h1
set_option maxRecDepth 100000 in
theorem dp_24 {σ : mjS} (ty : mjTY σ) {K : mjK} (hK : ∀ r u, K r u → r = none) (hh : mjY mjPP (mjQQ Y) (d + 7) 100 0 (mjL0 5 [.ref 0, .int (nI 24)]) [] σ K) : mjY mjPP (mjQQ Y) (d + 9) 155 36 [some (.ref 0), some (.int (nI 24))] [] σ K := by
  have ne : ∀ c : Nat, c < 128 ∧ c ≠ 24 → ¬ nI 24 = nI c := fun c hc y => hc.2 ((nI_eq (by decide) (by omega)).mp y).symm
  have dq : mjY mjPP (mjQQ Y) (d + 8) 157 0 (mjL0 4 [.ref 0, .int (nI 24)]) [] σ K := by
    refine mjZ_y rfl rfl 27 _ _ _ _ ty ?_
    refine (bn_t (ne 22 (by decide)) (bn_t (ne 23 (by decide)) (bn_f (ne 25 (by decide)) (bn_t (ne 26 (by decide)) (bn_t (ne 27 (by decide)) (bn_t (ne 28 (by decide)) (bn_t (ne 29 (by decide)) (bk_t rfl (And.intro (Nat.le_of_ble_eq_true rfl) (And.intro rfl (And.intro (Nat.le_of_ble_eq_true rfl) (And.intro (Nat.le_of_ble_eq_true rfl) (mjY_mono ty (fun q_ u1 ty1 h_ => ?_) (hh))))))))))))))
    have h1 := h_
    intro _
    obtain rfl := hK _ _ h1
    refine mjZ_y rfl rfl 1 _ _ _ _ ty1 ?_
    refine And.intro rfl (And.intro rfl ?_)
    exact h1
  refine mjZ_y rfl rfl 9 _ _ _ _ ty ?_
  refine (bk_t rfl (bk_f rfl (And.intro (Nat.le_of_ble_eq_true rfl) (And.intro rfl (And.intro (Nat.le_of_ble_eq_true rfl) (And.intro (Nat.le_of_ble_eq_true rfl) (mjY_mono ty (fun q_ u1 ty1 h_ => ?_) (dq))))))))
  have h1 := h_
  intro _
  obtain rfl := hK _ _ h1
  refine mjZ_y rfl rfl 2 _ _ _ _ ty1 ?_
  refine And.intro rfl (And.intro rfl ?_)
  exact h1
set_option maxRecDepth 100000 in
theorem dp_25 {σ : mjS} (ty : mjTY σ) {K : mjK} (hK : ∀ r u, K r u → r = none) (hh : mjY mjPP (mjQQ Y) (d + 7) 98 0 (mjL0 6 [.ref 0, .int (nI 25)]) [] σ K) : mjY mjPP (mjQQ Y) (d + 9) 155 36 [some (.ref 0), some (.int (nI 25))] [] σ K := by
  have ne : ∀ c : Nat, c < 128 ∧ c ≠ 25 → ¬ nI 25 = nI c := fun c hc y => hc.2 ((nI_eq (by decide) (by omega)).mp y).symm
  have dq : mjY mjPP (mjQQ Y) (d + 8) 157 0 (mjL0 4 [.ref 0, .int (nI 25)]) [] σ K := by
    refine mjZ_y rfl rfl 12 _ _ _ _ ty ?_
    refine (bn_t (ne 22 (by decide)) (bn_t (ne 23 (by decide)) (bn_t rfl (And.intro (Nat.le_of_ble_eq_true rfl) (And.intro rfl (And.intro (Nat.le_of_ble_eq_true rfl) (And.intro (Nat.le_of_ble_eq_true rfl) (mjY_mono ty (fun q_ u1 ty1 h_ => ?_) (hh)))))))))
    have h1 := h_
    intro _
    obtain rfl := hK _ _ h1
    refine mjZ_y rfl rfl 2 _ _ _ _ ty1 ?_
    refine And.intro rfl (And.intro rfl ?_)
    exact h1
  refine mjZ_y rfl rfl 9 _ _ _ _ ty ?_
  refine (bk_t rfl (bk_f rfl (And.intro (Nat.le_of_ble_eq_true rfl) (And.intro rfl (And.intro (Nat.le_of_ble_eq_true rfl) (And.intro (Nat.le_of_ble_eq_true rfl) (mjY_mono ty (fun q_ u1 ty1 h_ => ?_) (dq))))))))
  have h1 := h_
  intro _
  obtain rfl := hK _ _ h1
  refine mjZ_y rfl rfl 2 _ _ _ _ ty1 ?_
  refine And.intro rfl (And.intro rfl ?_)
  exact h1
set_option maxRecDepth 100000 in
theorem dp_26 {σ : mjS} (ty : mjTY σ) {K : mjK} (hK : ∀ r u, K r u → r = none) (hh : mjY mjPP (mjQQ Y) (d + 7) 98 0 (mjL0 6 [.ref 0, .int (nI 26)]) [] σ K) : mjY mjPP (mjQQ Y) (d + 9) 155 36 [some (.ref 0), some (.int (nI 26))] [] σ K := by
  have ne : ∀ c : Nat, c < 128 ∧ c ≠ 26 → ¬ nI 26 = nI c := fun c hc y => hc.2 ((nI_eq (by decide) (by omega)).mp y).symm
  have dq : mjY mjPP (mjQQ Y) (d + 8) 157 0 (mjL0 4 [.ref 0, .int (nI 26)]) [] σ K := by
    refine mjZ_y rfl rfl 15 _ _ _ _ ty ?_
    refine (bn_t (ne 22 (by decide)) (bn_t (ne 23 (by decide)) (bn_f (ne 25 (by decide)) (bn_f (fun n => n rfl) (And.intro (Nat.le_of_ble_eq_true rfl) (And.intro rfl (And.intro (Nat.le_of_ble_eq_true rfl) (And.intro (Nat.le_of_ble_eq_true rfl) (mjY_mono ty (fun q_ u1 ty1 h_ => ?_) (hh))))))))))
    have h1 := h_
    intro _
    obtain rfl := hK _ _ h1
    refine mjZ_y rfl rfl 2 _ _ _ _ ty1 ?_
    refine And.intro rfl (And.intro rfl ?_)
    exact h1
  refine mjZ_y rfl rfl 9 _ _ _ _ ty ?_
  refine (bk_t rfl (bk_f rfl (And.intro (Nat.le_of_ble_eq_true rfl) (And.intro rfl (And.intro (Nat.le_of_ble_eq_true rfl) (And.intro (Nat.le_of_ble_eq_true rfl) (mjY_mono ty (fun q_ u1 ty1 h_ => ?_) (dq))))))))
  have h1 := h_
  intro _
  obtain rfl := hK _ _ h1
  refine mjZ_y rfl rfl 2 _ _ _ _ ty1 ?_
  refine And.intro rfl (And.intro rfl ?_)
  exact h1
set_option maxRecDepth 100000 in
theorem dp_27 {σ : mjS} (ty : mjTY σ) {K : mjK} (hK : ∀ r u, K r u → r = none) (hh : mjY mjPP (mjQQ Y) (d + 7) 96 0 (mjL0 4 [.ref 0]) [] σ K) : mjY mjPP (mjQQ Y) (d + 9) 155 36 [some (.ref 0), some (.int (nI 27))] [] σ K := by
  have ne : ∀ c : Nat, c < 128 ∧ c ≠ 27 → ¬ nI 27 = nI c := fun c hc y => hc.2 ((nI_eq (by decide) (by omega)).mp y).symm
  have dq : mjY mjPP (mjQQ Y) (d + 8) 157 0 (mjL0 4 [.ref 0, .int (nI 27)]) [] σ K := by
    refine mjZ_y rfl rfl 17 _ _ _ _ ty ?_
    refine (bn_t (ne 22 (by decide)) (bn_t (ne 23 (by decide)) (bn_f (ne 25 (by decide)) (bn_t (ne 26 (by decide)) (bn_f (fun n => n rfl) (And.intro (Nat.le_of_ble_eq_true rfl) (And.intro rfl (And.intro (Nat.le_of_ble_eq_true rfl) (And.intro (Nat.le_of_ble_eq_true rfl) (mjY_mono ty (fun q_ u1 ty1 h_ => ?_) (hh)))))))))))
    have h1 := h_
    intro _
    obtain rfl := hK _ _ h1
    refine mjZ_y rfl rfl 2 _ _ _ _ ty1 ?_
    refine And.intro rfl (And.intro rfl ?_)
    exact h1
  refine mjZ_y rfl rfl 9 _ _ _ _ ty ?_
  refine (bk_t rfl (bk_f rfl (And.intro (Nat.le_of_ble_eq_true rfl) (And.intro rfl (And.intro (Nat.le_of_ble_eq_true rfl) (And.intro (Nat.le_of_ble_eq_true rfl) (mjY_mono ty (fun q_ u1 ty1 h_ => ?_) (dq))))))))
  have h1 := h_
  intro _
  obtain rfl := hK _ _ h1
  refine mjZ_y rfl rfl 2 _ _ _ _ ty1 ?_
  refine And.intro rfl (And.intro rfl ?_)
  exact h1
set_option maxRecDepth 100000 in
theorem dp_29 {σ : mjS} (ty : mjTY σ) {K : mjK} (hK : ∀ r u, K r u → r = none) (hh : mjY mjPP (mjQQ Y) (d + 7) 101 0 (mjL0 2 [.ref 0]) [] σ K) : mjY mjPP (mjQQ Y) (d + 9) 155 36 [some (.ref 0), some (.int (nI 29))] [] σ K := by
  have ne : ∀ c : Nat, c < 128 ∧ c ≠ 29 → ¬ nI 29 = nI c := fun c hc y => hc.2 ((nI_eq (by decide) (by omega)).mp y).symm
  have dq : mjY mjPP (mjQQ Y) (d + 8) 157 0 (mjL0 4 [.ref 0, .int (nI 29)]) [] σ K := by
    refine mjZ_y rfl rfl 23 _ _ _ _ ty ?_
    refine (bn_t (ne 22 (by decide)) (bn_t (ne 23 (by decide)) (bn_f (ne 25 (by decide)) (bn_t (ne 26 (by decide)) (bn_t (ne 27 (by decide)) (bn_t (ne 28 (by decide)) (bn_f (fun n => n rfl) (And.intro (Nat.le_of_ble_eq_true rfl) (And.intro rfl (And.intro (Nat.le_of_ble_eq_true rfl) (And.intro (Nat.le_of_ble_eq_true rfl) (mjY_mono ty (fun q_ u1 ty1 h_ => ?_) (hh)))))))))))))
    have h1 := h_
    intro _
    obtain rfl := hK _ _ h1
    refine mjZ_y rfl rfl 2 _ _ _ _ ty1 ?_
    refine And.intro rfl (And.intro rfl ?_)
    exact h1
  refine mjZ_y rfl rfl 9 _ _ _ _ ty ?_
  refine (bk_t rfl (bk_f rfl (And.intro (Nat.le_of_ble_eq_true rfl) (And.intro rfl (And.intro (Nat.le_of_ble_eq_true rfl) (And.intro (Nat.le_of_ble_eq_true rfl) (mjY_mono ty (fun q_ u1 ty1 h_ => ?_) (dq))))))))
  have h1 := h_
  intro _
  obtain rfl := hK _ _ h1
  refine mjZ_y rfl rfl 2 _ _ _ _ ty1 ?_
  refine And.intro rfl (And.intro rfl ?_)
  exact h1
set_option maxRecDepth 100000 in
theorem dp_30 {σ : mjS} (ty : mjTY σ) {K : mjK} (hK : ∀ r u, K r u → r = none) (hh : mjY mjPP (mjQQ Y) (d + 7) 99 0 (mjL0 2 [.ref 0]) [] σ K) : mjY mjPP (mjQQ Y) (d + 9) 155 36 [some (.ref 0), some (.int (nI 30))] [] σ K := by
  have ne : ∀ c : Nat, c < 128 ∧ c ≠ 30 → ¬ nI 30 = nI c := fun c hc y => hc.2 ((nI_eq (by decide) (by omega)).mp y).symm
  have dq : mjY mjPP (mjQQ Y) (d + 8) 157 0 (mjL0 4 [.ref 0, .int (nI 30)]) [] σ K := by
    refine mjZ_y rfl rfl 29 _ _ _ _ ty ?_
    refine (bn_t (ne 22 (by decide)) (bn_t (ne 23 (by decide)) (bn_f (ne 25 (by decide)) (bn_t (ne 26 (by decide)) (bn_t (ne 27 (by decide)) (bn_t (ne 28 (by decide)) (bn_t (ne 29 (by decide)) (bk_f rfl (bk_f rfl (And.intro (Nat.le_of_ble_eq_true rfl) (And.intro rfl (And.intro (Nat.le_of_ble_eq_true rfl) (And.intro (Nat.le_of_ble_eq_true rfl) (mjY_mono ty (fun q_ u1 ty1 h_ => ?_) (hh)))))))))))))))
    have h1 := h_
    intro _
    obtain rfl := hK _ _ h1
    refine mjZ_y rfl rfl 2 _ _ _ _ ty1 ?_
    refine And.intro rfl (And.intro rfl ?_)
    exact h1
  refine mjZ_y rfl rfl 9 _ _ _ _ ty ?_
  refine (bk_t rfl (bk_f rfl (And.intro (Nat.le_of_ble_eq_true rfl) (And.intro rfl (And.intro (Nat.le_of_ble_eq_true rfl) (And.intro (Nat.le_of_ble_eq_true rfl) (mjY_mono ty (fun q_ u1 ty1 h_ => ?_) (dq))))))))
  have h1 := h_
  intro _
  obtain rfl := hK _ _ h1
  refine mjZ_y rfl rfl 2 _ _ _ _ ty1 ?_
  refine And.intro rfl (And.intro rfl ?_)
  exact h1
set_option maxRecDepth 100000 in
theorem dp_31 {σ : mjS} (ty : mjTY σ) {K : mjK} (hK : ∀ r u, K r u → r = none) (hh : mjY mjPP (mjQQ Y) (d + 7) 99 0 (mjL0 2 [.ref 0]) [] σ K) : mjY mjPP (mjQQ Y) (d + 9) 155 36 [some (.ref 0), some (.int (nI 31))] [] σ K := by
  have ne : ∀ c : Nat, c < 128 ∧ c ≠ 31 → ¬ nI 31 = nI c := fun c hc y => hc.2 ((nI_eq (by decide) (by omega)).mp y).symm
  have dq : mjY mjPP (mjQQ Y) (d + 8) 157 0 (mjL0 4 [.ref 0, .int (nI 31)]) [] σ K := by
    refine mjZ_y rfl rfl 29 _ _ _ _ ty ?_
    refine (bn_t (ne 22 (by decide)) (bn_t (ne 23 (by decide)) (bn_f (ne 25 (by decide)) (bn_t (ne 26 (by decide)) (bn_t (ne 27 (by decide)) (bn_t (ne 28 (by decide)) (bn_t (ne 29 (by decide)) (bk_f rfl (bk_f rfl (And.intro (Nat.le_of_ble_eq_true rfl) (And.intro rfl (And.intro (Nat.le_of_ble_eq_true rfl) (And.intro (Nat.le_of_ble_eq_true rfl) (mjY_mono ty (fun q_ u1 ty1 h_ => ?_) (hh)))))))))))))))
    have h1 := h_
    intro _
    obtain rfl := hK _ _ h1
    refine mjZ_y rfl rfl 2 _ _ _ _ ty1 ?_
    refine And.intro rfl (And.intro rfl ?_)
    exact h1
  refine mjZ_y rfl rfl 9 _ _ _ _ ty ?_
  refine (bk_t rfl (bk_f rfl (And.intro (Nat.le_of_ble_eq_true rfl) (And.intro rfl (And.intro (Nat.le_of_ble_eq_true rfl) (And.intro (Nat.le_of_ble_eq_true rfl) (mjY_mono ty (fun q_ u1 ty1 h_ => ?_) (dq))))))))
  have h1 := h_
  intro _
  obtain rfl := hK _ _ h1
  refine mjZ_y rfl rfl 2 _ _ _ _ ty1 ?_
  refine And.intro rfl (And.intro rfl ?_)
  exact h1
set_option maxRecDepth 100000 in
theorem dp_32 {σ : mjS} (ty : mjTY σ) {K : mjK} (hK : ∀ r u, K r u → r = none) (hh : mjY mjPP (mjQQ Y) (d + 7) 99 0 (mjL0 2 [.ref 0]) [] σ K) : mjY mjPP (mjQQ Y) (d + 9) 155 36 [some (.ref 0), some (.int (nI 32))] [] σ K := by
  have ne : ∀ c : Nat, c < 128 ∧ c ≠ 32 → ¬ nI 32 = nI c := fun c hc y => hc.2 ((nI_eq (by decide) (by omega)).mp y).symm
  have dq : mjY mjPP (mjQQ Y) (d + 8) 157 0 (mjL0 4 [.ref 0, .int (nI 32)]) [] σ K := by
    refine mjZ_y rfl rfl 29 _ _ _ _ ty ?_
    refine (bn_t (ne 22 (by decide)) (bn_t (ne 23 (by decide)) (bn_f (ne 25 (by decide)) (bn_t (ne 26 (by decide)) (bn_t (ne 27 (by decide)) (bn_t (ne 28 (by decide)) (bn_t (ne 29 (by decide)) (bk_f rfl (bk_f rfl (And.intro (Nat.le_of_ble_eq_true rfl) (And.intro rfl (And.intro (Nat.le_of_ble_eq_true rfl) (And.intro (Nat.le_of_ble_eq_true rfl) (mjY_mono ty (fun q_ u1 ty1 h_ => ?_) (hh)))))))))))))))
    have h1 := h_
    intro _
    obtain rfl := hK _ _ h1
    refine mjZ_y rfl rfl 2 _ _ _ _ ty1 ?_
    refine And.intro rfl (And.intro rfl ?_)
    exact h1
  refine mjZ_y rfl rfl 9 _ _ _ _ ty ?_
  refine (bk_t rfl (bk_f rfl (And.intro (Nat.le_of_ble_eq_true rfl) (And.intro rfl (And.intro (Nat.le_of_ble_eq_true rfl) (And.intro (Nat.le_of_ble_eq_true rfl) (mjY_mono ty (fun q_ u1 ty1 h_ => ?_) (dq))))))))
  have h1 := h_
  intro _
  obtain rfl := hK _ _ h1
  refine mjZ_y rfl rfl 2 _ _ _ _ ty1 ?_
  refine And.intro rfl (And.intro rfl ?_)
  exact h1
set_option maxRecDepth 100000 in
theorem dp_33 {σ : mjS} (ty : mjTY σ) {K : mjK} (hK : ∀ r u, K r u → r = none) (hh : mjY mjPP (mjQQ Y) (d + 7) 99 0 (mjL0 2 [.ref 0]) [] σ K) : mjY mjPP (mjQQ Y) (d + 9) 155 36 [some (.ref 0), some (.int (nI 33))] [] σ K := by
  have ne : ∀ c : Nat, c < 128 ∧ c ≠ 33 → ¬ nI 33 = nI c := fun c hc y => hc.2 ((nI_eq (by decide) (by omega)).mp y).symm
  have dq : mjY mjPP (mjQQ Y) (d + 8) 157 0 (mjL0 4 [.ref 0, .int (nI 33)]) [] σ K := by
    refine mjZ_y rfl rfl 29 _ _ _ _ ty ?_
    refine (bn_t (ne 22 (by decide)) (bn_t (ne 23 (by decide)) (bn_f (ne 25 (by decide)) (bn_t (ne 26 (by decide)) (bn_t (ne 27 (by decide)) (bn_t (ne 28 (by decide)) (bn_t (ne 29 (by decide)) (bk_f rfl (bk_f rfl (And.intro (Nat.le_of_ble_eq_true rfl) (And.intro rfl (And.intro (Nat.le_of_ble_eq_true rfl) (And.intro (Nat.le_of_ble_eq_true rfl) (mjY_mono ty (fun q_ u1 ty1 h_ => ?_) (hh)))))))))))))))
    have h1 := h_
    intro _
    obtain rfl := hK _ _ h1
    refine mjZ_y rfl rfl 2 _ _ _ _ ty1 ?_
    refine And.intro rfl (And.intro rfl ?_)
    exact h1
  refine mjZ_y rfl rfl 9 _ _ _ _ ty ?_
  refine (bk_t rfl (bk_f rfl (And.intro (Nat.le_of_ble_eq_true rfl) (And.intro rfl (And.intro (Nat.le_of_ble_eq_true rfl) (And.intro (Nat.le_of_ble_eq_true rfl) (mjY_mono ty (fun q_ u1 ty1 h_ => ?_) (dq))))))))
  have h1 := h_
  intro _
  obtain rfl := hK _ _ h1
  refine mjZ_y rfl rfl 2 _ _ _ _ ty1 ?_
  refine And.intro rfl (And.intro rfl ?_)
  exact h1
set_option maxRecDepth 100000 in
theorem dp_34 {σ : mjS} (ty : mjTY σ) {K : mjK} (hK : ∀ r u, K r u → r = none) (hh : mjY mjPP (mjQQ Y) (d + 7) 100 0 (mjL0 5 [.ref 0, .int (nI 34)]) [] σ K) : mjY mjPP (mjQQ Y) (d + 9) 155 36 [some (.ref 0), some (.int (nI 34))] [] σ K := by
  have ne : ∀ c : Nat, c < 128 ∧ c ≠ 34 → ¬ nI 34 = nI c := fun c hc y => hc.2 ((nI_eq (by decide) (by omega)).mp y).symm
  have dq : mjY mjPP (mjQQ Y) (d + 8) 157 0 (mjL0 4 [.ref 0, .int (nI 34)]) [] σ K := by
    refine mjZ_y rfl rfl 30 _ _ _ _ ty ?_
    refine (bn_t (ne 22 (by decide)) (bn_t (ne 23 (by decide)) (bn_f (ne 25 (by decide)) (bn_t (ne 26 (by decide)) (bn_t (ne 27 (by decide)) (bn_t (ne 28 (by decide)) (bn_t (ne 29 (by decide)) (bk_f rfl (bk_t rfl (And.intro (Nat.le_of_ble_eq_true rfl) (And.intro rfl (And.intro (Nat.le_of_ble_eq_true rfl) (And.intro (Nat.le_of_ble_eq_true rfl) (mjY_mono ty (fun q_ u1 ty1 h_ => ?_) (hh)))))))))))))))
    have h1 := h_
    intro _
    obtain rfl := hK _ _ h1
    refine mjZ_y rfl rfl 1 _ _ _ _ ty1 ?_
    refine And.intro rfl (And.intro rfl ?_)
    exact h1
  refine mjZ_y rfl rfl 9 _ _ _ _ ty ?_
  refine (bk_t rfl (bk_f rfl (And.intro (Nat.le_of_ble_eq_true rfl) (And.intro rfl (And.intro (Nat.le_of_ble_eq_true rfl) (And.intro (Nat.le_of_ble_eq_true rfl) (mjY_mono ty (fun q_ u1 ty1 h_ => ?_) (dq))))))))
  have h1 := h_
  intro _
  obtain rfl := hK _ _ h1
  refine mjZ_y rfl rfl 2 _ _ _ _ ty1 ?_
  refine And.intro rfl (And.intro rfl ?_)
  exact h1
set_option maxRecDepth 100000 in
theorem dp_35 {σ : mjS} (ty : mjTY σ) {K : mjK} (hK : ∀ r u, K r u → r = none) (hh : mjY mjPP (mjQQ Y) (d + 7) 100 0 (mjL0 5 [.ref 0, .int (nI 35)]) [] σ K) : mjY mjPP (mjQQ Y) (d + 9) 155 36 [some (.ref 0), some (.int (nI 35))] [] σ K := by
  have ne : ∀ c : Nat, c < 128 ∧ c ≠ 35 → ¬ nI 35 = nI c := fun c hc y => hc.2 ((nI_eq (by decide) (by omega)).mp y).symm
  have dq : mjY mjPP (mjQQ Y) (d + 8) 157 0 (mjL0 4 [.ref 0, .int (nI 35)]) [] σ K := by
    refine mjZ_y rfl rfl 30 _ _ _ _ ty ?_
    refine (bn_t (ne 22 (by decide)) (bn_t (ne 23 (by decide)) (bn_f (ne 25 (by decide)) (bn_t (ne 26 (by decide)) (bn_t (ne 27 (by decide)) (bn_t (ne 28 (by decide)) (bn_t (ne 29 (by decide)) (bk_f rfl (bk_t rfl (And.intro (Nat.le_of_ble_eq_true rfl) (And.intro rfl (And.intro (Nat.le_of_ble_eq_true rfl) (And.intro (Nat.le_of_ble_eq_true rfl) (mjY_mono ty (fun q_ u1 ty1 h_ => ?_) (hh)))))))))))))))
    have h1 := h_
    intro _
    obtain rfl := hK _ _ h1
    refine mjZ_y rfl rfl 1 _ _ _ _ ty1 ?_
    refine And.intro rfl (And.intro rfl ?_)
    exact h1
  refine mjZ_y rfl rfl 9 _ _ _ _ ty ?_
  refine (bk_t rfl (bk_f rfl (And.intro (Nat.le_of_ble_eq_true rfl) (And.intro rfl (And.intro (Nat.le_of_ble_eq_true rfl) (And.intro (Nat.le_of_ble_eq_true rfl) (mjY_mono ty (fun q_ u1 ty1 h_ => ?_) (dq))))))))
  have h1 := h_
  intro _
  obtain rfl := hK _ _ h1
  refine mjZ_y rfl rfl 2 _ _ _ _ ty1 ?_
  refine And.intro rfl (And.intro rfl ?_)
  exact h1
set_option maxRecDepth 100000 in
theorem dp_36 {σ : mjS} (ty : mjTY σ) {K : mjK} (hK : ∀ r u, K r u → r = none) (hh : mjY mjPP (mjQQ Y) (d + 7) 100 0 (mjL0 5 [.ref 0, .int (nI 36)]) [] σ K) : mjY mjPP (mjQQ Y) (d + 9) 155 36 [some (.ref 0), some (.int (nI 36))] [] σ K := by
  have ne : ∀ c : Nat, c < 128 ∧ c ≠ 36 → ¬ nI 36 = nI c := fun c hc y => hc.2 ((nI_eq (by decide) (by omega)).mp y).symm
  have dq : mjY mjPP (mjQQ Y) (d + 8) 157 0 (mjL0 4 [.ref 0, .int (nI 36)]) [] σ K := by
    refine mjZ_y rfl rfl 30 _ _ _ _ ty ?_
    refine (bn_t (ne 22 (by decide)) (bn_t (ne 23 (by decide)) (bn_f (ne 25 (by decide)) (bn_t (ne 26 (by decide)) (bn_t (ne 27 (by decide)) (bn_t (ne 28 (by decide)) (bn_t (ne 29 (by decide)) (bk_f rfl (bk_t rfl (And.intro (Nat.le_of_ble_eq_true rfl) (And.intro rfl (And.intro (Nat.le_of_ble_eq_true rfl) (And.intro (Nat.le_of_ble_eq_true rfl) (mjY_mono ty (fun q_ u1 ty1 h_ => ?_) (hh)))))))))))))))
    have h1 := h_
    intro _
    obtain rfl := hK _ _ h1
    refine mjZ_y rfl rfl 1 _ _ _ _ ty1 ?_
    refine And.intro rfl (And.intro rfl ?_)
    exact h1
  refine mjZ_y rfl rfl 9 _ _ _ _ ty ?_
  refine (bk_t rfl (bk_f rfl (And.intro (Nat.le_of_ble_eq_true rfl) (And.intro rfl (And.intro (Nat.le_of_ble_eq_true rfl) (And.intro (Nat.le_of_ble_eq_true rfl) (mjY_mono ty (fun q_ u1 ty1 h_ => ?_) (dq))))))))
  have h1 := h_
  intro _
  obtain rfl := hK _ _ h1
  refine mjZ_y rfl rfl 2 _ _ _ _ ty1 ?_
  refine And.intro rfl (And.intro rfl ?_)
  exact h1
set_option maxRecDepth 100000 in
theorem dp_37 {σ : mjS} (ty : mjTY σ) {K : mjK} (hK : ∀ r u, K r u → r = none) (hh : mjY mjPP (mjQQ Y) (d + 7) 104 0 (mjL0 6 [.ref 0, .int (nI 37)]) [] σ K) : mjY mjPP (mjQQ Y) (d + 9) 155 36 [some (.ref 0), some (.int (nI 37))] [] σ K := by
  have ne : ∀ c : Nat, c < 128 ∧ c ≠ 37 → ¬ nI 37 = nI c := fun c hc y => hc.2 ((nI_eq (by decide) (by omega)).mp y).symm
  have dq : mjY mjPP (mjQQ Y) (d + 8) 158 0 (mjL0 2 [.ref 0, .int (nI 37)]) [] σ K := by
    refine mjZ_y rfl rfl 6 _ _ _ _ ty ?_
    refine (bk_f rfl (And.intro (Nat.le_of_ble_eq_true rfl) (And.intro rfl (And.intro (Nat.le_of_ble_eq_true rfl) (And.intro (Nat.le_of_ble_eq_true rfl) (mjY_mono ty (fun q_ u1 ty1 h_ => ?_) (hh)))))))
    have h1 := h_
    intro _
    obtain rfl := hK _ _ h1
    refine mjZ_y rfl rfl 2 _ _ _ _ ty1 ?_
    refine And.intro rfl (And.intro rfl ?_)
    exact h1
  refine mjZ_y rfl rfl 12 _ _ _ _ ty ?_
  refine (bk_t rfl (bk_t rfl (bk_f rfl (And.intro (Nat.le_of_ble_eq_true rfl) (And.intro rfl (And.intro (Nat.le_of_ble_eq_true rfl) (And.intro (Nat.le_of_ble_eq_true rfl) (mjY_mono ty (fun q_ u1 ty1 h_ => ?_) (dq)))))))))
  have h1 := h_
  intro _
  obtain rfl := hK _ _ h1
  refine mjZ_y rfl rfl 2 _ _ _ _ ty1 ?_
  refine And.intro rfl (And.intro rfl ?_)
  exact h1
set_option maxRecDepth 100000 in
theorem dp_38 {σ : mjS} (ty : mjTY σ) {K : mjK} (hK : ∀ r u, K r u → r = none) (hh : mjY mjPP (mjQQ Y) (d + 7) 104 0 (mjL0 6 [.ref 0, .int (nI 38)]) [] σ K) : mjY mjPP (mjQQ Y) (d + 9) 155 36 [some (.ref 0), some (.int (nI 38))] [] σ K := by
  have ne : ∀ c : Nat, c < 128 ∧ c ≠ 38 → ¬ nI 38 = nI c := fun c hc y => hc.2 ((nI_eq (by decide) (by omega)).mp y).symm
  have dq : mjY mjPP (mjQQ Y) (d + 8) 158 0 (mjL0 2 [.ref 0, .int (nI 38)]) [] σ K := by
    refine mjZ_y rfl rfl 6 _ _ _ _ ty ?_
    refine (bk_f rfl (And.intro (Nat.le_of_ble_eq_true rfl) (And.intro rfl (And.intro (Nat.le_of_ble_eq_true rfl) (And.intro (Nat.le_of_ble_eq_true rfl) (mjY_mono ty (fun q_ u1 ty1 h_ => ?_) (hh)))))))
    have h1 := h_
    intro _
    obtain rfl := hK _ _ h1
    refine mjZ_y rfl rfl 2 _ _ _ _ ty1 ?_
    refine And.intro rfl (And.intro rfl ?_)
    exact h1
  refine mjZ_y rfl rfl 12 _ _ _ _ ty ?_
  refine (bk_t rfl (bk_t rfl (bk_f rfl (And.intro (Nat.le_of_ble_eq_true rfl) (And.intro rfl (And.intro (Nat.le_of_ble_eq_true rfl) (And.intro (Nat.le_of_ble_eq_true rfl) (mjY_mono ty (fun q_ u1 ty1 h_ => ?_) (dq)))))))))
  have h1 := h_
  intro _
  obtain rfl := hK _ _ h1
  refine mjZ_y rfl rfl 2 _ _ _ _ ty1 ?_
  refine And.intro rfl (And.intro rfl ?_)
  exact h1
set_option maxRecDepth 100000 in
theorem dp_39 {σ : mjS} (ty : mjTY σ) {K : mjK} (hK : ∀ r u, K r u → r = none) (hh : mjY mjPP (mjQQ Y) (d + 7) 104 0 (mjL0 6 [.ref 0, .int (nI 39)]) [] σ K) : mjY mjPP (mjQQ Y) (d + 9) 155 36 [some (.ref 0), some (.int (nI 39))] [] σ K := by
  have ne : ∀ c : Nat, c < 128 ∧ c ≠ 39 → ¬ nI 39 = nI c := fun c hc y => hc.2 ((nI_eq (by decide) (by omega)).mp y).symm
  have dq : mjY mjPP (mjQQ Y) (d + 8) 158 0 (mjL0 2 [.ref 0, .int (nI 39)]) [] σ K := by
    refine mjZ_y rfl rfl 6 _ _ _ _ ty ?_
    refine (bk_f rfl (And.intro (Nat.le_of_ble_eq_true rfl) (And.intro rfl (And.intro (Nat.le_of_ble_eq_true rfl) (And.intro (Nat.le_of_ble_eq_true rfl) (mjY_mono ty (fun q_ u1 ty1 h_ => ?_) (hh)))))))
    have h1 := h_
    intro _
    obtain rfl := hK _ _ h1
    refine mjZ_y rfl rfl 2 _ _ _ _ ty1 ?_
    refine And.intro rfl (And.intro rfl ?_)
    exact h1
  refine mjZ_y rfl rfl 12 _ _ _ _ ty ?_
  refine (bk_t rfl (bk_t rfl (bk_f rfl (And.intro (Nat.le_of_ble_eq_true rfl) (And.intro rfl (And.intro (Nat.le_of_ble_eq_true rfl) (And.intro (Nat.le_of_ble_eq_true rfl) (mjY_mono ty (fun q_ u1 ty1 h_ => ?_) (dq)))))))))
  have h1 := h_
  intro _
  obtain rfl := hK _ _ h1
  refine mjZ_y rfl rfl 2 _ _ _ _ ty1 ?_
  refine And.intro rfl (And.intro rfl ?_)
  exact h1
set_option maxRecDepth 100000 in
theorem dp_40 {σ : mjS} (ty : mjTY σ) {K : mjK} (hK : ∀ r u, K r u → r = none) (hh : mjY mjPP (mjQQ Y) (d + 7) 104 0 (mjL0 6 [.ref 0, .int (nI 40)]) [] σ K) : mjY mjPP (mjQQ Y) (d + 9) 155 36 [some (.ref 0), some (.int (nI 40))] [] σ K := by
  have ne : ∀ c : Nat, c < 128 ∧ c ≠ 40 → ¬ nI 40 = nI c := fun c hc y => hc.2 ((nI_eq (by decide) (by omega)).mp y).symm
  have dq : mjY mjPP (mjQQ Y) (d + 8) 158 0 (mjL0 2 [.ref 0, .int (nI 40)]) [] σ K := by
    refine mjZ_y rfl rfl 6 _ _ _ _ ty ?_
    refine (bk_f rfl (And.intro (Nat.le_of_ble_eq_true rfl) (And.intro rfl (And.intro (Nat.le_of_ble_eq_true rfl) (And.intro (Nat.le_of_ble_eq_true rfl) (mjY_mono ty (fun q_ u1 ty1 h_ => ?_) (hh)))))))
    have h1 := h_
    intro _
    obtain rfl := hK _ _ h1
    refine mjZ_y rfl rfl 2 _ _ _ _ ty1 ?_
    refine And.intro rfl (And.intro rfl ?_)
    exact h1
  refine mjZ_y rfl rfl 12 _ _ _ _ ty ?_
  refine (bk_t rfl (bk_t rfl (bk_f rfl (And.intro (Nat.le_of_ble_eq_true rfl) (And.intro rfl (And.intro (Nat.le_of_ble_eq_true rfl) (And.intro (Nat.le_of_ble_eq_true rfl) (mjY_mono ty (fun q_ u1 ty1 h_ => ?_) (dq)))))))))
  have h1 := h_
  intro _
  obtain rfl := hK _ _ h1
  refine mjZ_y rfl rfl 2 _ _ _ _ ty1 ?_
  refine And.intro rfl (And.intro rfl ?_)
  exact h1
set_option maxRecDepth 100000 in
theorem dp_41 {σ : mjS} (ty : mjTY σ) {K : mjK} (hK : ∀ r u, K r u → r = none) (hh : mjY mjPP (mjQQ Y) (d + 7) 105 0 (mjL0 6 [.ref 0, .int (nI 41)]) [] σ K) : mjY mjPP (mjQQ Y) (d + 9) 155 36 [some (.ref 0), some (.int (nI 41))] [] σ K := by
  have ne : ∀ c : Nat, c < 128 ∧ c ≠ 41 → ¬ nI 41 = nI c := fun c hc y => hc.2 ((nI_eq (by decide) (by omega)).mp y).symm
  have dq : mjY mjPP (mjQQ Y) (d + 8) 158 0 (mjL0 2 [.ref 0, .int (nI 41)]) [] σ K := by
    refine mjZ_y rfl rfl 9 _ _ _ _ ty ?_
    refine (bk_t rfl (bk_f rfl (And.intro (Nat.le_of_ble_eq_true rfl) (And.intro rfl (And.intro (Nat.le_of_ble_eq_true rfl) (And.intro (Nat.le_of_ble_eq_true rfl) (mjY_mono ty (fun q_ u1 ty1 h_ => ?_) (hh))))))))
    have h1 := h_
    intro _
    obtain rfl := hK _ _ h1
    refine mjZ_y rfl rfl 2 _ _ _ _ ty1 ?_
    refine And.intro rfl (And.intro rfl ?_)
    exact h1
  refine mjZ_y rfl rfl 12 _ _ _ _ ty ?_
  refine (bk_t rfl (bk_t rfl (bk_f rfl (And.intro (Nat.le_of_ble_eq_true rfl) (And.intro rfl (And.intro (Nat.le_of_ble_eq_true rfl) (And.intro (Nat.le_of_ble_eq_true rfl) (mjY_mono ty (fun q_ u1 ty1 h_ => ?_) (dq)))))))))
  have h1 := h_
  intro _
  obtain rfl := hK _ _ h1
  refine mjZ_y rfl rfl 2 _ _ _ _ ty1 ?_
  refine And.intro rfl (And.intro rfl ?_)
  exact h1
set_option maxRecDepth 100000 in
theorem dp_42 {σ : mjS} (ty : mjTY σ) {K : mjK} (hK : ∀ r u, K r u → r = none) (hh : mjY mjPP (mjQQ Y) (d + 7) 105 0 (mjL0 6 [.ref 0, .int (nI 42)]) [] σ K) : mjY mjPP (mjQQ Y) (d + 9) 155 36 [some (.ref 0), some (.int (nI 42))] [] σ K := by
  have ne : ∀ c : Nat, c < 128 ∧ c ≠ 42 → ¬ nI 42 = nI c := fun c hc y => hc.2 ((nI_eq (by decide) (by omega)).mp y).symm
  have dq : mjY mjPP (mjQQ Y) (d + 8) 158 0 (mjL0 2 [.ref 0, .int (nI 42)]) [] σ K := by
    refine mjZ_y rfl rfl 9 _ _ _ _ ty ?_
    refine (bk_t rfl (bk_f rfl (And.intro (Nat.le_of_ble_eq_true rfl) (And.intro rfl (And.intro (Nat.le_of_ble_eq_true rfl) (And.intro (Nat.le_of_ble_eq_true rfl) (mjY_mono ty (fun q_ u1 ty1 h_ => ?_) (hh))))))))
    have h1 := h_
    intro _
    obtain rfl := hK _ _ h1
    refine mjZ_y rfl rfl 2 _ _ _ _ ty1 ?_
    refine And.intro rfl (And.intro rfl ?_)
    exact h1
  refine mjZ_y rfl rfl 12 _ _ _ _ ty ?_
  refine (bk_t rfl (bk_t rfl (bk_f rfl (And.intro (Nat.le_of_ble_eq_true rfl) (And.intro rfl (And.intro (Nat.le_of_ble_eq_true rfl) (And.intro (Nat.le_of_ble_eq_true rfl) (mjY_mono ty (fun q_ u1 ty1 h_ => ?_) (dq)))))))))
  have h1 := h_
  intro _
  obtain rfl := hK _ _ h1
  refine mjZ_y rfl rfl 2 _ _ _ _ ty1 ?_
  refine And.intro rfl (And.intro rfl ?_)
  exact h1
set_option maxRecDepth 100000 in
theorem dp_45 {σ : mjS} (ty : mjTY σ) {K : mjK} (hK : ∀ r u, K r u → r = none) (hh : mjY mjPP (mjQQ Y) (d + 7) 109 0 (mjL0 6 [.ref 0, .int (nI 45)]) [] σ K) : mjY mjPP (mjQQ Y) (d + 9) 155 36 [some (.ref 0), some (.int (nI 45))] [] σ K := by
  have ne : ∀ c : Nat, c < 128 ∧ c ≠ 45 → ¬ nI 45 = nI c := fun c hc y => hc.2 ((nI_eq (by decide) (by omega)).mp y).symm
  have dq : mjY mjPP (mjQQ Y) (d + 8) 158 0 (mjL0 2 [.ref 0, .int (nI 45)]) [] σ K := by
    refine mjZ_y rfl rfl 18 _ _ _ _ ty ?_
    refine (bk_t rfl (bk_t rfl (bn_t (ne 43 (by decide)) (bn_t (ne 44 (by decide)) (bn_t rfl (And.intro (Nat.le_of_ble_eq_true rfl) (And.intro rfl (And.intro (Nat.le_of_ble_eq_true rfl) (And.intro (Nat.le_of_ble_eq_true rfl) (mjY_mono ty (fun q_ u1 ty1 h_ => ?_) (hh)))))))))))
    have h1 := h_
    intro _
    obtain rfl := hK _ _ h1
    refine mjZ_y rfl rfl 2 _ _ _ _ ty1 ?_
    refine And.intro rfl (And.intro rfl ?_)
    exact h1
  refine mjZ_y rfl rfl 12 _ _ _ _ ty ?_
  refine (bk_t rfl (bk_t rfl (bk_f rfl (And.intro (Nat.le_of_ble_eq_true rfl) (And.intro rfl (And.intro (Nat.le_of_ble_eq_true rfl) (And.intro (Nat.le_of_ble_eq_true rfl) (mjY_mono ty (fun q_ u1 ty1 h_ => ?_) (dq)))))))))
  have h1 := h_
  intro _
  obtain rfl := hK _ _ h1
  refine mjZ_y rfl rfl 2 _ _ _ _ ty1 ?_
  refine And.intro rfl (And.intro rfl ?_)
  exact h1
set_option maxRecDepth 100000 in
theorem dp_46 {σ : mjS} (ty : mjTY σ) {K : mjK} (hK : ∀ r u, K r u → r = none) (hh : mjY mjPP (mjQQ Y) (d + 7) 109 0 (mjL0 6 [.ref 0, .int (nI 46)]) [] σ K) : mjY mjPP (mjQQ Y) (d + 9) 155 36 [some (.ref 0), some (.int (nI 46))] [] σ K := by
  have ne : ∀ c : Nat, c < 128 ∧ c ≠ 46 → ¬ nI 46 = nI c := fun c hc y => hc.2 ((nI_eq (by decide) (by omega)).mp y).symm
  have dq : mjY mjPP (mjQQ Y) (d + 8) 158 0 (mjL0 2 [.ref 0, .int (nI 46)]) [] σ K := by
    refine mjZ_y rfl rfl 21 _ _ _ _ ty ?_
    refine (bk_t rfl (bk_t rfl (bn_t (ne 43 (by decide)) (bn_t (ne 44 (by decide)) (bn_f (ne 45 (by decide)) (bn_f (fun n => n rfl) (And.intro (Nat.le_of_ble_eq_true rfl) (And.intro rfl (And.intro (Nat.le_of_ble_eq_true rfl) (And.intro (Nat.le_of_ble_eq_true rfl) (mjY_mono ty (fun q_ u1 ty1 h_ => ?_) (hh))))))))))))
    have h1 := h_
    intro _
    obtain rfl := hK _ _ h1
    refine mjZ_y rfl rfl 2 _ _ _ _ ty1 ?_
    refine And.intro rfl (And.intro rfl ?_)
    exact h1
  refine mjZ_y rfl rfl 12 _ _ _ _ ty ?_
  refine (bk_t rfl (bk_t rfl (bk_f rfl (And.intro (Nat.le_of_ble_eq_true rfl) (And.intro rfl (And.intro (Nat.le_of_ble_eq_true rfl) (And.intro (Nat.le_of_ble_eq_true rfl) (mjY_mono ty (fun q_ u1 ty1 h_ => ?_) (dq)))))))))
  have h1 := h_
  intro _
  obtain rfl := hK _ _ h1
  refine mjZ_y rfl rfl 2 _ _ _ _ ty1 ?_
  refine And.intro rfl (And.intro rfl ?_)
  exact h1
set_option maxRecDepth 100000 in
theorem dp_47 {σ : mjS} (ty : mjTY σ) {K : mjK} (hK : ∀ r u, K r u → r = none) (hh : mjY mjPP (mjQQ Y) (d + 7) 111 0 (mjL0 5 [.ref 0]) [] σ K) : mjY mjPP (mjQQ Y) (d + 9) 155 36 [some (.ref 0), some (.int (nI 47))] [] σ K := by
  have ne : ∀ c : Nat, c < 128 ∧ c ≠ 47 → ¬ nI 47 = nI c := fun c hc y => hc.2 ((nI_eq (by decide) (by omega)).mp y).symm
  have dq : mjY mjPP (mjQQ Y) (d + 8) 158 0 (mjL0 2 [.ref 0, .int (nI 47)]) [] σ K := by
    refine mjZ_y rfl rfl 23 _ _ _ _ ty ?_
    refine (bk_t rfl (bk_t rfl (bn_t (ne 43 (by decide)) (bn_t (ne 44 (by decide)) (bn_f (ne 45 (by decide)) (bn_t (ne 46 (by decide)) (bn_f (fun n => n rfl) (And.intro (Nat.le_of_ble_eq_true rfl) (And.intro rfl (And.intro (Nat.le_of_ble_eq_true rfl) (And.intro (Nat.le_of_ble_eq_true rfl) (mjY_mono ty (fun q_ u1 ty1 h_ => ?_) (hh)))))))))))))
    have h1 := h_
    intro _
    obtain rfl := hK _ _ h1
    refine mjZ_y rfl rfl 2 _ _ _ _ ty1 ?_
    refine And.intro rfl (And.intro rfl ?_)
    exact h1
  refine mjZ_y rfl rfl 12 _ _ _ _ ty ?_
  refine (bk_t rfl (bk_t rfl (bk_f rfl (And.intro (Nat.le_of_ble_eq_true rfl) (And.intro rfl (And.intro (Nat.le_of_ble_eq_true rfl) (And.intro (Nat.le_of_ble_eq_true rfl) (mjY_mono ty (fun q_ u1 ty1 h_ => ?_) (dq)))))))))
  have h1 := h_
  intro _
  obtain rfl := hK _ _ h1
  refine mjZ_y rfl rfl 2 _ _ _ _ ty1 ?_
  refine And.intro rfl (And.intro rfl ?_)
  exact h1
set_option maxRecDepth 100000 in
theorem dp_48 {σ : mjS} (ty : mjTY σ) {K : mjK} (hK : ∀ r u, K r u → r = none) (hh : mjY mjPP (mjQQ Y) (d + 7) 112 0 (mjL0 9 [.ref 0]) [] σ K) : mjY mjPP (mjQQ Y) (d + 9) 155 36 [some (.ref 0), some (.int (nI 48))] [] σ K := by
  have ne : ∀ c : Nat, c < 128 ∧ c ≠ 48 → ¬ nI 48 = nI c := fun c hc y => hc.2 ((nI_eq (by decide) (by omega)).mp y).symm
  have dq : mjY mjPP (mjQQ Y) (d + 8) 158 0 (mjL0 2 [.ref 0, .int (nI 48)]) [] σ K := by
    refine mjZ_y rfl rfl 26 _ _ _ _ ty ?_
    refine (bk_t rfl (bk_t rfl (bn_t (ne 43 (by decide)) (bn_t (ne 44 (by decide)) (bn_f (ne 45 (by decide)) (bn_t (ne 46 (by decide)) (bn_t (ne 47 (by decide)) (bn_f (fun n => n rfl) (And.intro (Nat.le_of_ble_eq_true rfl) (And.intro rfl (And.intro (Nat.le_of_ble_eq_true rfl) (And.intro (Nat.le_of_ble_eq_true rfl) (mjY_mono ty (fun q_ u1 ty1 h_ => ?_) (hh))))))))))))))
    have h1 := h_
    intro _
    obtain rfl := hK _ _ h1
    refine mjZ_y rfl rfl 2 _ _ _ _ ty1 ?_
    refine And.intro rfl (And.intro rfl ?_)
    exact h1
  refine mjZ_y rfl rfl 12 _ _ _ _ ty ?_
  refine (bk_t rfl (bk_t rfl (bk_f rfl (And.intro (Nat.le_of_ble_eq_true rfl) (And.intro rfl (And.intro (Nat.le_of_ble_eq_true rfl) (And.intro (Nat.le_of_ble_eq_true rfl) (mjY_mono ty (fun q_ u1 ty1 h_ => ?_) (dq)))))))))
  have h1 := h_
  intro _
  obtain rfl := hK _ _ h1
  refine mjZ_y rfl rfl 2 _ _ _ _ ty1 ?_
  refine And.intro rfl (And.intro rfl ?_)
  exact h1
set_option maxRecDepth 100000 in
theorem dp_49 {σ : mjS} (ty : mjTY σ) {K : mjK} (hK : ∀ r u, K r u → r = none) (hh : mjY mjPP (mjQQ Y) (d + 7) 113 0 (mjL0 4 [.ref 0]) [] σ K) : mjY mjPP (mjQQ Y) (d + 9) 155 36 [some (.ref 0), some (.int (nI 49))] [] σ K := by
  have ne : ∀ c : Nat, c < 128 ∧ c ≠ 49 → ¬ nI 49 = nI c := fun c hc y => hc.2 ((nI_eq (by decide) (by omega)).mp y).symm
  have dq : mjY mjPP (mjQQ Y) (d + 8) 158 0 (mjL0 2 [.ref 0, .int (nI 49)]) [] σ K := by
    refine mjZ_y rfl rfl 29 _ _ _ _ ty ?_
    refine (bk_t rfl (bk_t rfl (bn_t (ne 43 (by decide)) (bn_t (ne 44 (by decide)) (bn_f (ne 45 (by decide)) (bn_t (ne 46 (by decide)) (bn_t (ne 47 (by decide)) (bn_t (ne 48 (by decide)) (bn_f (fun n => n rfl) (And.intro (Nat.le_of_ble_eq_true rfl) (And.intro rfl (And.intro (Nat.le_of_ble_eq_true rfl) (And.intro (Nat.le_of_ble_eq_true rfl) (mjY_mono ty (fun q_ u1 ty1 h_ => ?_) (hh)))))))))))))))
    have h1 := h_
    intro _
    obtain rfl := hK _ _ h1
    refine mjZ_y rfl rfl 2 _ _ _ _ ty1 ?_
    refine And.intro rfl (And.intro rfl ?_)
    exact h1
  refine mjZ_y rfl rfl 12 _ _ _ _ ty ?_
  refine (bk_t rfl (bk_t rfl (bk_f rfl (And.intro (Nat.le_of_ble_eq_true rfl) (And.intro rfl (And.intro (Nat.le_of_ble_eq_true rfl) (And.intro (Nat.le_of_ble_eq_true rfl) (mjY_mono ty (fun q_ u1 ty1 h_ => ?_) (dq)))))))))
  have h1 := h_
  intro _
  obtain rfl := hK _ _ h1
  refine mjZ_y rfl rfl 2 _ _ _ _ ty1 ?_
  refine And.intro rfl (And.intro rfl ?_)
  exact h1
set_option maxRecDepth 100000 in
theorem dp_50 {σ : mjS} (ty : mjTY σ) {K : mjK} (hK : ∀ r u, K r u → r = none) (hh : mjY mjPP (mjQQ Y) (d + 7) 114 0 (mjL0 8 [.ref 0, .int (nI 50)]) [] σ K) : mjY mjPP (mjQQ Y) (d + 9) 155 36 [some (.ref 0), some (.int (nI 50))] [] σ K := by
  have ne : ∀ c : Nat, c < 128 ∧ c ≠ 50 → ¬ nI 50 = nI c := fun c hc y => hc.2 ((nI_eq (by decide) (by omega)).mp y).symm
  have dq : mjY mjPP (mjQQ Y) (d + 8) 158 0 (mjL0 2 [.ref 0, .int (nI 50)]) [] σ K := by
    refine mjZ_y rfl rfl 30 _ _ _ _ ty ?_
    refine (bk_t rfl (bk_t rfl (bn_t (ne 43 (by decide)) (bn_t (ne 44 (by decide)) (bn_f (ne 45 (by decide)) (bn_t (ne 46 (by decide)) (bn_t (ne 47 (by decide)) (bn_t (ne 48 (by decide)) (bn_t (ne 49 (by decide)) (And.intro (Nat.le_of_ble_eq_true rfl) (And.intro rfl (And.intro (Nat.le_of_ble_eq_true rfl) (And.intro (Nat.le_of_ble_eq_true rfl) (mjY_mono ty (fun q_ u1 ty1 h_ => ?_) (hh)))))))))))))))
    have h1 := h_
    intro _
    obtain rfl := hK _ _ h1
    refine mjZ_y rfl rfl 1 _ _ _ _ ty1 ?_
    refine And.intro rfl (And.intro rfl ?_)
    exact h1
  refine mjZ_y rfl rfl 12 _ _ _ _ ty ?_
  refine (bk_t rfl (bk_t rfl (bk_f rfl (And.intro (Nat.le_of_ble_eq_true rfl) (And.intro rfl (And.intro (Nat.le_of_ble_eq_true rfl) (And.intro (Nat.le_of_ble_eq_true rfl) (mjY_mono ty (fun q_ u1 ty1 h_ => ?_) (dq)))))))))
  have h1 := h_
  intro _
  obtain rfl := hK _ _ h1
  refine mjZ_y rfl rfl 2 _ _ _ _ ty1 ?_
  refine And.intro rfl (And.intro rfl ?_)
  exact h1
set_option maxRecDepth 100000 in
theorem dp_51 {σ : mjS} (ty : mjTY σ) {K : mjK} (hK : ∀ r u, K r u → r = none) (hh : mjY mjPP (mjQQ Y) (d + 7) 114 0 (mjL0 8 [.ref 0, .int (nI 51)]) [] σ K) : mjY mjPP (mjQQ Y) (d + 9) 155 36 [some (.ref 0), some (.int (nI 51))] [] σ K := by
  have ne : ∀ c : Nat, c < 128 ∧ c ≠ 51 → ¬ nI 51 = nI c := fun c hc y => hc.2 ((nI_eq (by decide) (by omega)).mp y).symm
  have dq : mjY mjPP (mjQQ Y) (d + 8) 158 0 (mjL0 2 [.ref 0, .int (nI 51)]) [] σ K := by
    refine mjZ_y rfl rfl 30 _ _ _ _ ty ?_
    refine (bk_t rfl (bk_t rfl (bn_t (ne 43 (by decide)) (bn_t (ne 44 (by decide)) (bn_f (ne 45 (by decide)) (bn_t (ne 46 (by decide)) (bn_t (ne 47 (by decide)) (bn_t (ne 48 (by decide)) (bn_t (ne 49 (by decide)) (And.intro (Nat.le_of_ble_eq_true rfl) (And.intro rfl (And.intro (Nat.le_of_ble_eq_true rfl) (And.intro (Nat.le_of_ble_eq_true rfl) (mjY_mono ty (fun q_ u1 ty1 h_ => ?_) (hh)))))))))))))))
    have h1 := h_
    intro _
    obtain rfl := hK _ _ h1
    refine mjZ_y rfl rfl 1 _ _ _ _ ty1 ?_
    refine And.intro rfl (And.intro rfl ?_)
    exact h1
  refine mjZ_y rfl rfl 12 _ _ _ _ ty ?_
  refine (bk_t rfl (bk_t rfl (bk_f rfl (And.intro (Nat.le_of_ble_eq_true rfl) (And.intro rfl (And.intro (Nat.le_of_ble_eq_true rfl) (And.intro (Nat.le_of_ble_eq_true rfl) (mjY_mono ty (fun q_ u1 ty1 h_ => ?_) (dq)))))))))
  have h1 := h_
  intro _
  obtain rfl := hK _ _ h1
  refine mjZ_y rfl rfl 2 _ _ _ _ ty1 ?_
  refine And.intro rfl (And.intro rfl ?_)
  exact h1
set_option maxRecDepth 100000 in
theorem dp_52 {σ : mjS} (ty : mjTY σ) {K : mjK} (hK : ∀ r u, K r u → r = none) (hh : mjY mjPP (mjQQ Y) (d + 7) 119 0 (mjL0 6 [.ref 0, .int (nI 52)]) [] σ K) : mjY mjPP (mjQQ Y) (d + 9) 155 36 [some (.ref 0), some (.int (nI 52))] [] σ K := by
  have ne : ∀ c : Nat, c < 128 ∧ c ≠ 52 → ¬ nI 52 = nI c := fun c hc y => hc.2 ((nI_eq (by decide) (by omega)).mp y).symm
  have dq : mjY mjPP (mjQQ Y) (d + 8) 159 0 (mjL0 2 [.ref 0, .int (nI 52)]) [] σ K := by
    refine mjZ_y rfl rfl 6 _ _ _ _ ty ?_
    refine (bn_t rfl (And.intro (Nat.le_of_ble_eq_true rfl) (And.intro rfl (And.intro (Nat.le_of_ble_eq_true rfl) (And.intro (Nat.le_of_ble_eq_true rfl) (mjY_mono ty (fun q_ u1 ty1 h_ => ?_) (hh)))))))
    have h1 := h_
    intro _
    obtain rfl := hK _ _ h1
    refine mjZ_y rfl rfl 2 _ _ _ _ ty1 ?_
    refine And.intro rfl (And.intro rfl ?_)
    exact h1
  refine mjZ_y rfl rfl 15 _ _ _ _ ty ?_
  refine (bk_t rfl (bk_t rfl (bk_t rfl (bk_f rfl (And.intro (Nat.le_of_ble_eq_true rfl) (And.intro rfl (And.intro (Nat.le_of_ble_eq_true rfl) (And.intro (Nat.le_of_ble_eq_true rfl) (mjY_mono ty (fun q_ u1 ty1 h_ => ?_) (dq))))))))))
  have h1 := h_
  intro _
  obtain rfl := hK _ _ h1
  refine mjZ_y rfl rfl 2 _ _ _ _ ty1 ?_
  refine And.intro rfl (And.intro rfl ?_)
  exact h1
set_option maxRecDepth 100000 in
theorem dp_53 {σ : mjS} (ty : mjTY σ) {K : mjK} (hK : ∀ r u, K r u → r = none) (hh : mjY mjPP (mjQQ Y) (d + 7) 119 0 (mjL0 6 [.ref 0, .int (nI 53)]) [] σ K) : mjY mjPP (mjQQ Y) (d + 9) 155 36 [some (.ref 0), some (.int (nI 53))] [] σ K := by
  have ne : ∀ c : Nat, c < 128 ∧ c ≠ 53 → ¬ nI 53 = nI c := fun c hc y => hc.2 ((nI_eq (by decide) (by omega)).mp y).symm
  have dq : mjY mjPP (mjQQ Y) (d + 8) 159 0 (mjL0 2 [.ref 0, .int (nI 53)]) [] σ K := by
    refine mjZ_y rfl rfl 9 _ _ _ _ ty ?_
    refine (bn_f (ne 52 (by decide)) (bn_f (fun n => n rfl) (And.intro (Nat.le_of_ble_eq_true rfl) (And.intro rfl (And.intro (Nat.le_of_ble_eq_true rfl) (And.intro (Nat.le_of_ble_eq_true rfl) (mjY_mono ty (fun q_ u1 ty1 h_ => ?_) (hh))))))))
    have h1 := h_
    intro _
    obtain rfl := hK _ _ h1
    refine mjZ_y rfl rfl 2 _ _ _ _ ty1 ?_
    refine And.intro rfl (And.intro rfl ?_)
    exact h1
  refine mjZ_y rfl rfl 15 _ _ _ _ ty ?_
  refine (bk_t rfl (bk_t rfl (bk_t rfl (bk_f rfl (And.intro (Nat.le_of_ble_eq_true rfl) (And.intro rfl (And.intro (Nat.le_of_ble_eq_true rfl) (And.intro (Nat.le_of_ble_eq_true rfl) (mjY_mono ty (fun q_ u1 ty1 h_ => ?_) (dq))))))))))
  have h1 := h_
  intro _
  obtain rfl := hK _ _ h1
  refine mjZ_y rfl rfl 2 _ _ _ _ ty1 ?_
  refine And.intro rfl (And.intro rfl ?_)
  exact h1
set_option maxRecDepth 100000 in
theorem dp_54 {σ : mjS} (ty : mjTY σ) {K : mjK} (hK : ∀ r u, K r u → r = none) (hh : mjY mjPP (mjQQ Y) (d + 7) 121 0 (mjL0 5 [.ref 0, .int (nI 54)]) [] σ K) : mjY mjPP (mjQQ Y) (d + 9) 155 36 [some (.ref 0), some (.int (nI 54))] [] σ K := by
  have ne : ∀ c : Nat, c < 128 ∧ c ≠ 54 → ¬ nI 54 = nI c := fun c hc y => hc.2 ((nI_eq (by decide) (by omega)).mp y).symm
  have dq : mjY mjPP (mjQQ Y) (d + 8) 159 0 (mjL0 2 [.ref 0, .int (nI 54)]) [] σ K := by
    refine mjZ_y rfl rfl 15 _ _ _ _ ty ?_
    refine (bn_f (ne 52 (by decide)) (bn_t (ne 53 (by decide)) (bn_t (ne 56 (by decide)) (bn_t (ne 63 (by decide)) (And.intro (Nat.le_of_ble_eq_true rfl) (And.intro rfl (And.intro (Nat.le_of_ble_eq_true rfl) (And.intro (Nat.le_of_ble_eq_true rfl) (mjY_mono ty (fun q_ u1 ty1 h_ => ?_) (hh))))))))))
    have h1 := h_
    intro _
    obtain rfl := hK _ _ h1
    refine mjZ_y rfl rfl 1 _ _ _ _ ty1 ?_
    refine And.intro rfl (And.intro rfl ?_)
    exact h1
  refine mjZ_y rfl rfl 15 _ _ _ _ ty ?_
  refine (bk_t rfl (bk_t rfl (bk_t rfl (bk_f rfl (And.intro (Nat.le_of_ble_eq_true rfl) (And.intro rfl (And.intro (Nat.le_of_ble_eq_true rfl) (And.intro (Nat.le_of_ble_eq_true rfl) (mjY_mono ty (fun q_ u1 ty1 h_ => ?_) (dq))))))))))
  have h1 := h_
  intro _
  obtain rfl := hK _ _ h1
  refine mjZ_y rfl rfl 2 _ _ _ _ ty1 ?_
  refine And.intro rfl (And.intro rfl ?_)
  exact h1
set_option maxRecDepth 100000 in
theorem dp_55 {σ : mjS} (ty : mjTY σ) {K : mjK} (hK : ∀ r u, K r u → r = none) (hh : mjY mjPP (mjQQ Y) (d + 7) 121 0 (mjL0 5 [.ref 0, .int (nI 55)]) [] σ K) : mjY mjPP (mjQQ Y) (d + 9) 155 36 [some (.ref 0), some (.int (nI 55))] [] σ K := by
  have ne : ∀ c : Nat, c < 128 ∧ c ≠ 55 → ¬ nI 55 = nI c := fun c hc y => hc.2 ((nI_eq (by decide) (by omega)).mp y).symm
  have dq : mjY mjPP (mjQQ Y) (d + 8) 159 0 (mjL0 2 [.ref 0, .int (nI 55)]) [] σ K := by
    refine mjZ_y rfl rfl 15 _ _ _ _ ty ?_
    refine (bn_f (ne 52 (by decide)) (bn_t (ne 53 (by decide)) (bn_t (ne 56 (by decide)) (bn_t (ne 63 (by decide)) (And.intro (Nat.le_of_ble_eq_true rfl) (And.intro rfl (And.intro (Nat.le_of_ble_eq_true rfl) (And.intro (Nat.le_of_ble_eq_true rfl) (mjY_mono ty (fun q_ u1 ty1 h_ => ?_) (hh))))))))))
    have h1 := h_
    intro _
    obtain rfl := hK _ _ h1
    refine mjZ_y rfl rfl 1 _ _ _ _ ty1 ?_
    refine And.intro rfl (And.intro rfl ?_)
    exact h1
  refine mjZ_y rfl rfl 15 _ _ _ _ ty ?_
  refine (bk_t rfl (bk_t rfl (bk_t rfl (bk_f rfl (And.intro (Nat.le_of_ble_eq_true rfl) (And.intro rfl (And.intro (Nat.le_of_ble_eq_true rfl) (And.intro (Nat.le_of_ble_eq_true rfl) (mjY_mono ty (fun q_ u1 ty1 h_ => ?_) (dq))))))))))
  have h1 := h_
  intro _
  obtain rfl := hK _ _ h1
  refine mjZ_y rfl rfl 2 _ _ _ _ ty1 ?_
  refine And.intro rfl (And.intro rfl ?_)
  exact h1
set_option maxRecDepth 100000 in
theorem dp_56 {σ : mjS} (ty : mjTY σ) {K : mjK} (hK : ∀ r u, K r u → r = none) (hh : mjY mjPP (mjQQ Y) (d + 7) 122 0 (mjL0 6 [.ref 0, .int (nI 56)]) [] σ K) : mjY mjPP (mjQQ Y) (d + 9) 155 36 [some (.ref 0), some (.int (nI 56))] [] σ K := by
  have ne : ∀ c : Nat, c < 128 ∧ c ≠ 56 → ¬ nI 56 = nI c := fun c hc y => hc.2 ((nI_eq (by decide) (by omega)).mp y).symm
  have dq : mjY mjPP (mjQQ Y) (d + 8) 159 0 (mjL0 2 [.ref 0, .int (nI 56)]) [] σ K := by
    refine mjZ_y rfl rfl 12 _ _ _ _ ty ?_
    refine (bn_f (ne 52 (by decide)) (bn_t (ne 53 (by decide)) (bn_f (fun n => n rfl) (And.intro (Nat.le_of_ble_eq_true rfl) (And.intro rfl (And.intro (Nat.le_of_ble_eq_true rfl) (And.intro (Nat.le_of_ble_eq_true rfl) (mjY_mono ty (fun q_ u1 ty1 h_ => ?_) (hh)))))))))
    have h1 := h_
    intro _
    obtain rfl := hK _ _ h1
    refine mjZ_y rfl rfl 2 _ _ _ _ ty1 ?_
    refine And.intro rfl (And.intro rfl ?_)
    exact h1
  refine mjZ_y rfl rfl 15 _ _ _ _ ty ?_
  refine (bk_t rfl (bk_t rfl (bk_t rfl (bk_f rfl (And.intro (Nat.le_of_ble_eq_true rfl) (And.intro rfl (And.intro (Nat.le_of_ble_eq_true rfl) (And.intro (Nat.le_of_ble_eq_true rfl) (mjY_mono ty (fun q_ u1 ty1 h_ => ?_) (dq))))))))))
  have h1 := h_
  intro _
  obtain rfl := hK _ _ h1
  refine mjZ_y rfl rfl 2 _ _ _ _ ty1 ?_
  refine And.intro rfl (And.intro rfl ?_)
  exact h1
set_option maxRecDepth 100000 in
theorem dp_57 {σ : mjS} (ty : mjTY σ) {K : mjK} (hK : ∀ r u, K r u → r = none) (hh : mjY mjPP (mjQQ Y) (d + 7) 121 0 (mjL0 5 [.ref 0, .int (nI 57)]) [] σ K) : mjY mjPP (mjQQ Y) (d + 9) 155 36 [some (.ref 0), some (.int (nI 57))] [] σ K := by
  have ne : ∀ c : Nat, c < 128 ∧ c ≠ 57 → ¬ nI 57 = nI c := fun c hc y => hc.2 ((nI_eq (by decide) (by omega)).mp y).symm
  have dq : mjY mjPP (mjQQ Y) (d + 8) 159 0 (mjL0 2 [.ref 0, .int (nI 57)]) [] σ K := by
    refine mjZ_y rfl rfl 15 _ _ _ _ ty ?_
    refine (bn_f (ne 52 (by decide)) (bn_t (ne 53 (by decide)) (bn_t (ne 56 (by decide)) (bn_t (ne 63 (by decide)) (And.intro (Nat.le_of_ble_eq_true rfl) (And.intro rfl (And.intro (Nat.le_of_ble_eq_true rfl) (And.intro (Nat.le_of_ble_eq_true rfl) (mjY_mono ty (fun q_ u1 ty1 h_ => ?_) (hh))))))))))
    have h1 := h_
    intro _
    obtain rfl := hK _ _ h1
    refine mjZ_y rfl rfl 1 _ _ _ _ ty1 ?_
    refine And.intro rfl (And.intro rfl ?_)
    exact h1
  refine mjZ_y rfl rfl 15 _ _ _ _ ty ?_
  refine (bk_t rfl (bk_t rfl (bk_t rfl (bk_f rfl (And.intro (Nat.le_of_ble_eq_true rfl) (And.intro rfl (And.intro (Nat.le_of_ble_eq_true rfl) (And.intro (Nat.le_of_ble_eq_true rfl) (mjY_mono ty (fun q_ u1 ty1 h_ => ?_) (dq))))))))))
  have h1 := h_
  intro _
  obtain rfl := hK _ _ h1
  refine mjZ_y rfl rfl 2 _ _ _ _ ty1 ?_
  refine And.intro rfl (And.intro rfl ?_)
  exact h1
set_option maxRecDepth 100000 in
theorem dp_58 {σ : mjS} (ty : mjTY σ) {K : mjK} (hK : ∀ r u, K r u → r = none) (hh : mjY mjPP (mjQQ Y) (d + 7) 121 0 (mjL0 5 [.ref 0, .int (nI 58)]) [] σ K) : mjY mjPP (mjQQ Y) (d + 9) 155 36 [some (.ref 0), some (.int (nI 58))] [] σ K := by
  have ne : ∀ c : Nat, c < 128 ∧ c ≠ 58 → ¬ nI 58 = nI c := fun c hc y => hc.2 ((nI_eq (by decide) (by omega)).mp y).symm
  have dq : mjY mjPP (mjQQ Y) (d + 8) 159 0 (mjL0 2 [.ref 0, .int (nI 58)]) [] σ K := by
    refine mjZ_y rfl rfl 15 _ _ _ _ ty ?_
    refine (bn_f (ne 52 (by decide)) (bn_t (ne 53 (by decide)) (bn_t (ne 56 (by decide)) (bn_t (ne 63 (by decide)) (And.intro (Nat.le_of_ble_eq_true rfl) (And.intro rfl (And.intro (Nat.le_of_ble_eq_true rfl) (And.intro (Nat.le_of_ble_eq_true rfl) (mjY_mono ty (fun q_ u1 ty1 h_ => ?_) (hh))))))))))
    have h1 := h_
    intro _
    obtain rfl := hK _ _ h1
    refine mjZ_y rfl rfl 1 _ _ _ _ ty1 ?_
    refine And.intro rfl (And.intro rfl ?_)
    exact h1
  refine mjZ_y rfl rfl 15 _ _ _ _ ty ?_
  refine (bk_t rfl (bk_t rfl (bk_t rfl (bk_f rfl (And.intro (Nat.le_of_ble_eq_true rfl) (And.intro rfl (And.intro (Nat.le_of_ble_eq_true rfl) (And.intro (Nat.le_of_ble_eq_true rfl) (mjY_mono ty (fun q_ u1 ty1 h_ => ?_) (dq))))))))))
  have h1 := h_
  intro _
  obtain rfl := hK _ _ h1
  refine mjZ_y rfl rfl 2 _ _ _ _ ty1 ?_
  refine And.intro rfl (And.intro rfl ?_)
  exact h1
set_option maxRecDepth 100000 in
theorem dp_59 {σ : mjS} (ty : mjTY σ) {K : mjK} (hK : ∀ r u, K r u → r = none) (hh : mjY mjPP (mjQQ Y) (d + 7) 121 0 (mjL0 5 [.ref 0, .int (nI 59)]) [] σ K) : mjY mjPP (mjQQ Y) (d + 9) 155 36 [some (.ref 0), some (.int (nI 59))] [] σ K := by
  have ne : ∀ c : Nat, c < 128 ∧ c ≠ 59 → ¬ nI 59 = nI c := fun c hc y => hc.2 ((nI_eq (by decide) (by omega)).mp y).symm
  have dq : mjY mjPP (mjQQ Y) (d + 8) 159 0 (mjL0 2 [.ref 0, .int (nI 59)]) [] σ K := by
    refine mjZ_y rfl rfl 15 _ _ _ _ ty ?_
    refine (bn_f (ne 52 (by decide)) (bn_t (ne 53 (by decide)) (bn_t (ne 56 (by decide)) (bn_t (ne 63 (by decide)) (And.intro (Nat.le_of_ble_eq_true rfl) (And.intro rfl (And.intro (Nat.le_of_ble_eq_true rfl) (And.intro (Nat.le_of_ble_eq_true rfl) (mjY_mono ty (fun q_ u1 ty1 h_ => ?_) (hh))))))))))
    have h1 := h_
    intro _
    obtain rfl := hK _ _ h1
    refine mjZ_y rfl rfl 1 _ _ _ _ ty1 ?_
    refine And.intro rfl (And.intro rfl ?_)
    exact h1
  refine mjZ_y rfl rfl 15 _ _ _ _ ty ?_
  refine (bk_t rfl (bk_t rfl (bk_t rfl (bk_f rfl (And.intro (Nat.le_of_ble_eq_true rfl) (And.intro rfl (And.intro (Nat.le_of_ble_eq_true rfl) (And.intro (Nat.le_of_ble_eq_true rfl) (mjY_mono ty (fun q_ u1 ty1 h_ => ?_) (dq))))))))))
  have h1 := h_
  intro _
  obtain rfl := hK _ _ h1
  refine mjZ_y rfl rfl 2 _ _ _ _ ty1 ?_
  refine And.intro rfl (And.intro rfl ?_)
  exact h1
set_option maxRecDepth 100000 in
theorem dp_60 {σ : mjS} (ty : mjTY σ) {K : mjK} (hK : ∀ r u, K r u → r = none) (hh : mjY mjPP (mjQQ Y) (d + 7) 121 0 (mjL0 5 [.ref 0, .int (nI 60)]) [] σ K) : mjY mjPP (mjQQ Y) (d + 9) 155 36 [some (.ref 0), some (.int (nI 60))] [] σ K := by
  have ne : ∀ c : Nat, c < 128 ∧ c ≠ 60 → ¬ nI 60 = nI c := fun c hc y => hc.2 ((nI_eq (by decide) (by omega)).mp y).symm
  have dq : mjY mjPP (mjQQ Y) (d + 8) 159 0 (mjL0 2 [.ref 0, .int (nI 60)]) [] σ K := by
    refine mjZ_y rfl rfl 15 _ _ _ _ ty ?_
    refine (bn_f (ne 52 (by decide)) (bn_t (ne 53 (by decide)) (bn_t (ne 56 (by decide)) (bn_t (ne 63 (by decide)) (And.intro (Nat.le_of_ble_eq_true rfl) (And.intro rfl (And.intro (Nat.le_of_ble_eq_true rfl) (And.intro (Nat.le_of_ble_eq_true rfl) (mjY_mono ty (fun q_ u1 ty1 h_ => ?_) (hh))))))))))
    have h1 := h_
    intro _
    obtain rfl := hK _ _ h1
    refine mjZ_y rfl rfl 1 _ _ _ _ ty1 ?_
    refine And.intro rfl (And.intro rfl ?_)
    exact h1
  refine mjZ_y rfl rfl 15 _ _ _ _ ty ?_
  refine (bk_t rfl (bk_t rfl (bk_t rfl (bk_f rfl (And.intro (Nat.le_of_ble_eq_true rfl) (And.intro rfl (And.intro (Nat.le_of_ble_eq_true rfl) (And.intro (Nat.le_of_ble_eq_true rfl) (mjY_mono ty (fun q_ u1 ty1 h_ => ?_) (dq))))))))))
  have h1 := h_
  intro _
  obtain rfl := hK _ _ h1
  refine mjZ_y rfl rfl 2 _ _ _ _ ty1 ?_
  refine And.intro rfl (And.intro rfl ?_)
  exact h1
set_option maxRecDepth 100000 in
theorem dp_61 {σ : mjS} (ty : mjTY σ) {K : mjK} (hK : ∀ r u, K r u → r = none) (hh : mjY mjPP (mjQQ Y) (d + 7) 121 0 (mjL0 5 [.ref 0, .int (nI 61)]) [] σ K) : mjY mjPP (mjQQ Y) (d + 9) 155 36 [some (.ref 0), some (.int (nI 61))] [] σ K := by
  have ne : ∀ c : Nat, c < 128 ∧ c ≠ 61 → ¬ nI 61 = nI c := fun c hc y => hc.2 ((nI_eq (by decide) (by omega)).mp y).symm
  have dq : mjY mjPP (mjQQ Y) (d + 8) 159 0 (mjL0 2 [.ref 0, .int (nI 61)]) [] σ K := by
    refine mjZ_y rfl rfl 15 _ _ _ _ ty ?_
    refine (bn_f (ne 52 (by decide)) (bn_t (ne 53 (by decide)) (bn_t (ne 56 (by decide)) (bn_t (ne 63 (by decide)) (And.intro (Nat.le_of_ble_eq_true rfl) (And.intro rfl (And.intro (Nat.le_of_ble_eq_true rfl) (And.intro (Nat.le_of_ble_eq_true rfl) (mjY_mono ty (fun q_ u1 ty1 h_ => ?_) (hh))))))))))
    have h1 := h_
    intro _
    obtain rfl := hK _ _ h1
    refine mjZ_y rfl rfl 1 _ _ _ _ ty1 ?_
    refine And.intro rfl (And.intro rfl ?_)
    exact h1
  refine mjZ_y rfl rfl 15 _ _ _ _ ty ?_
  refine (bk_t rfl (bk_t rfl (bk_t rfl (bk_f rfl (And.intro (Nat.le_of_ble_eq_true rfl) (And.intro rfl (And.intro (Nat.le_of_ble_eq_true rfl) (And.intro (Nat.le_of_ble_eq_true rfl) (mjY_mono ty (fun q_ u1 ty1 h_ => ?_) (dq))))))))))
  have h1 := h_
  intro _
  obtain rfl := hK _ _ h1
  refine mjZ_y rfl rfl 2 _ _ _ _ ty1 ?_
  refine And.intro rfl (And.intro rfl ?_)
  exact h1
set_option maxRecDepth 100000 in
theorem dp_62 {σ : mjS} (ty : mjTY σ) {K : mjK} (hK : ∀ r u, K r u → r = none) (hh : mjY mjPP (mjQQ Y) (d + 7) 121 0 (mjL0 5 [.ref 0, .int (nI 62)]) [] σ K) : mjY mjPP (mjQQ Y) (d + 9) 155 36 [some (.ref 0), some (.int (nI 62))] [] σ K := by
  have ne : ∀ c : Nat, c < 128 ∧ c ≠ 62 → ¬ nI 62 = nI c := fun c hc y => hc.2 ((nI_eq (by decide) (by omega)).mp y).symm
  have dq : mjY mjPP (mjQQ Y) (d + 8) 159 0 (mjL0 2 [.ref 0, .int (nI 62)]) [] σ K := by
    refine mjZ_y rfl rfl 15 _ _ _ _ ty ?_
    refine (bn_f (ne 52 (by decide)) (bn_t (ne 53 (by decide)) (bn_t (ne 56 (by decide)) (bn_t (ne 63 (by decide)) (And.intro (Nat.le_of_ble_eq_true rfl) (And.intro rfl (And.intro (Nat.le_of_ble_eq_true rfl) (And.intro (Nat.le_of_ble_eq_true rfl) (mjY_mono ty (fun q_ u1 ty1 h_ => ?_) (hh))))))))))
    have h1 := h_
    intro _
    obtain rfl := hK _ _ h1
    refine mjZ_y rfl rfl 1 _ _ _ _ ty1 ?_
    refine And.intro rfl (And.intro rfl ?_)
    exact h1
  refine mjZ_y rfl rfl 15 _ _ _ _ ty ?_
  refine (bk_t rfl (bk_t rfl (bk_t rfl (bk_f rfl (And.intro (Nat.le_of_ble_eq_true rfl) (And.intro rfl (And.intro (Nat.le_of_ble_eq_true rfl) (And.intro (Nat.le_of_ble_eq_true rfl) (mjY_mono ty (fun q_ u1 ty1 h_ => ?_) (dq))))))))))
  have h1 := h_
  intro _
  obtain rfl := hK _ _ h1
  refine mjZ_y rfl rfl 2 _ _ _ _ ty1 ?_
  refine And.intro rfl (And.intro rfl ?_)
  exact h1
set_option maxRecDepth 100000 in
theorem dp_63 {σ : mjS} (ty : mjTY σ) {K : mjK} (hK : ∀ r u, K r u → r = none) (hh : mjY mjPP (mjQQ Y) (d + 7) 120 0 (mjL0 6 [.ref 0]) [] σ K) : mjY mjPP (mjQQ Y) (d + 9) 155 36 [some (.ref 0), some (.int (nI 63))] [] σ K := by
  have ne : ∀ c : Nat, c < 128 ∧ c ≠ 63 → ¬ nI 63 = nI c := fun c hc y => hc.2 ((nI_eq (by decide) (by omega)).mp y).symm
  have dq : mjY mjPP (mjQQ Y) (d + 8) 159 0 (mjL0 2 [.ref 0, .int (nI 63)]) [] σ K := by
    refine mjZ_y rfl rfl 14 _ _ _ _ ty ?_
    refine (bn_f (ne 52 (by decide)) (bn_t (ne 53 (by decide)) (bn_t (ne 56 (by decide)) (bn_f (fun n => n rfl) (And.intro (Nat.le_of_ble_eq_true rfl) (And.intro rfl (And.intro (Nat.le_of_ble_eq_true rfl) (And.intro (Nat.le_of_ble_eq_true rfl) (mjY_mono ty (fun q_ u1 ty1 h_ => ?_) (hh))))))))))
    have h1 := h_
    intro _
    obtain rfl := hK _ _ h1
    refine mjZ_y rfl rfl 2 _ _ _ _ ty1 ?_
    refine And.intro rfl (And.intro rfl ?_)
    exact h1
  refine mjZ_y rfl rfl 15 _ _ _ _ ty ?_
  refine (bk_t rfl (bk_t rfl (bk_t rfl (bk_f rfl (And.intro (Nat.le_of_ble_eq_true rfl) (And.intro rfl (And.intro (Nat.le_of_ble_eq_true rfl) (And.intro (Nat.le_of_ble_eq_true rfl) (mjY_mono ty (fun q_ u1 ty1 h_ => ?_) (dq))))))))))
  have h1 := h_
  intro _
  obtain rfl := hK _ _ h1
  refine mjZ_y rfl rfl 2 _ _ _ _ ty1 ?_
  refine And.intro rfl (And.intro rfl ?_)
  exact h1
set_option maxRecDepth 100000 in
theorem dp_64 {σ : mjS} (ty : mjTY σ) {K : mjK} (hK : ∀ r u, K r u → r = none) (hh : mjY mjPP (mjQQ Y) (d + 7) 123 0 (mjL0 4 [.ref 0]) [] σ K) : mjY mjPP (mjQQ Y) (d + 9) 155 36 [some (.ref 0), some (.int (nI 64))] [] σ K := by
  have ne : ∀ c : Nat, c < 128 ∧ c ≠ 64 → ¬ nI 64 = nI c := fun c hc y => hc.2 ((nI_eq (by decide) (by omega)).mp y).symm
  have dq : mjY mjPP (mjQQ Y) (d + 8) 160 0 (mjL0 2 [.ref 0, .int (nI 64)]) [] σ K := by
    refine mjZ_y rfl rfl 5 _ _ _ _ ty ?_
    refine (bn_f (fun n => n rfl) (And.intro (Nat.le_of_ble_eq_true rfl) (And.intro rfl (And.intro (Nat.le_of_ble_eq_true rfl) (And.intro (Nat.le_of_ble_eq_true rfl) (mjY_mono ty (fun q_ u1 ty1 h_ => ?_) (hh)))))))
    have h1 := h_
    intro _
    obtain rfl := hK _ _ h1
    refine mjZ_y rfl rfl 2 _ _ _ _ ty1 ?_
    refine And.intro rfl (And.intro rfl ?_)
    exact h1
  refine mjZ_y rfl rfl 18 _ _ _ _ ty ?_
  refine (bk_t rfl (bk_t rfl (bk_t rfl (bk_t rfl (bk_f rfl (And.intro (Nat.le_of_ble_eq_true rfl) (And.intro rfl (And.intro (Nat.le_of_ble_eq_true rfl) (And.intro (Nat.le_of_ble_eq_true rfl) (mjY_mono ty (fun q_ u1 ty1 h_ => ?_) (dq)))))))))))
  have h1 := h_
  intro _
  obtain rfl := hK _ _ h1
  refine mjZ_y rfl rfl 2 _ _ _ _ ty1 ?_
  refine And.intro rfl (And.intro rfl ?_)
  exact h1
set_option maxRecDepth 100000 in
theorem dp_65 {σ : mjS} (ty : mjTY σ) {K : mjK} (hK : ∀ r u, K r u → r = none) (hh : mjY mjPP (mjQQ Y) (d + 7) 122 0 (mjL0 6 [.ref 0, .int (nI 65)]) [] σ K) : mjY mjPP (mjQQ Y) (d + 9) 155 36 [some (.ref 0), some (.int (nI 65))] [] σ K := by
  have ne : ∀ c : Nat, c < 128 ∧ c ≠ 65 → ¬ nI 65 = nI c := fun c hc y => hc.2 ((nI_eq (by decide) (by omega)).mp y).symm
  have dq : mjY mjPP (mjQQ Y) (d + 8) 160 0 (mjL0 2 [.ref 0, .int (nI 65)]) [] σ K := by
    refine mjZ_y rfl rfl 9 _ _ _ _ ty ?_
    refine (bn_t (ne 64 (by decide)) (bn_f (fun n => n rfl) (And.intro (Nat.le_of_ble_eq_true rfl) (And.intro rfl (And.intro (Nat.le_of_ble_eq_true rfl) (And.intro (Nat.le_of_ble_eq_true rfl) (mjY_mono ty (fun q_ u1 ty1 h_ => ?_) (hh))))))))
    have h1 := h_
    intro _
    obtain rfl := hK _ _ h1
    refine mjZ_y rfl rfl 2 _ _ _ _ ty1 ?_
    refine And.intro rfl (And.intro rfl ?_)
    exact h1
  refine mjZ_y rfl rfl 18 _ _ _ _ ty ?_
  refine (bk_t rfl (bk_t rfl (bk_t rfl (bk_t rfl (bk_f rfl (And.intro (Nat.le_of_ble_eq_true rfl) (And.intro rfl (And.intro (Nat.le_of_ble_eq_true rfl) (And.intro (Nat.le_of_ble_eq_true rfl) (mjY_mono ty (fun q_ u1 ty1 h_ => ?_) (dq)))))))))))
  have h1 := h_
  intro _
  obtain rfl := hK _ _ h1
  refine mjZ_y rfl rfl 2 _ _ _ _ ty1 ?_
  refine And.intro rfl (And.intro rfl ?_)
  exact h1
set_option maxRecDepth 100000 in
theorem dp_66 {σ : mjS} (ty : mjTY σ) {K : mjK} (hK : ∀ r u, K r u → r = none) (hh : mjY mjPP (mjQQ Y) (d + 7) 124 0 (mjL0 4 [.ref 0, .int (nI 66)]) [] σ K) : mjY mjPP (mjQQ Y) (d + 9) 155 36 [some (.ref 0), some (.int (nI 66))] [] σ K := by
  have ne : ∀ c : Nat, c < 128 ∧ c ≠ 66 → ¬ nI 66 = nI c := fun c hc y => hc.2 ((nI_eq (by decide) (by omega)).mp y).symm
  have dq : mjY mjPP (mjQQ Y) (d + 8) 160 0 (mjL0 2 [.ref 0, .int (nI 66)]) [] σ K := by
    refine mjZ_y rfl rfl 15 _ _ _ _ ty ?_
    refine (bn_t (ne 64 (by decide)) (bn_t (ne 65 (by decide)) (bn_t (ne 70 (by decide)) (bk_t rfl (And.intro (Nat.le_of_ble_eq_true rfl) (And.intro rfl (And.intro (Nat.le_of_ble_eq_true rfl) (And.intro (Nat.le_of_ble_eq_true rfl) (mjY_mono ty (fun q_ u1 ty1 h_ => ?_) (hh))))))))))
    have h1 := h_
    intro _
    obtain rfl := hK _ _ h1
    refine mjZ_y rfl rfl 1 _ _ _ _ ty1 ?_
    refine And.intro rfl (And.intro rfl ?_)
    exact h1
  refine mjZ_y rfl rfl 18 _ _ _ _ ty ?_
  refine (bk_t rfl (bk_t rfl (bk_t rfl (bk_t rfl (bk_f rfl (And.intro (Nat.le_of_ble_eq_true rfl) (And.intro rfl (And.intro (Nat.le_of_ble_eq_true rfl) (And.intro (Nat.le_of_ble_eq_true rfl) (mjY_mono ty (fun q_ u1 ty1 h_ => ?_) (dq)))))))))))
  have h1 := h_
  intro _
  obtain rfl := hK _ _ h1
  refine mjZ_y rfl rfl 2 _ _ _ _ ty1 ?_
  refine And.intro rfl (And.intro rfl ?_)
  exact h1
set_option maxRecDepth 100000 in
theorem dp_67 {σ : mjS} (ty : mjTY σ) {K : mjK} (hK : ∀ r u, K r u → r = none) (hh : mjY mjPP (mjQQ Y) (d + 7) 124 0 (mjL0 4 [.ref 0, .int (nI 67)]) [] σ K) : mjY mjPP (mjQQ Y) (d + 9) 155 36 [some (.ref 0), some (.int (nI 67))] [] σ K := by
  have ne : ∀ c : Nat, c < 128 ∧ c ≠ 67 → ¬ nI 67 = nI c := fun c hc y => hc.2 ((nI_eq (by decide) (by omega)).mp y).symm
  have dq : mjY mjPP (mjQQ Y) (d + 8) 160 0 (mjL0 2 [.ref 0, .int (nI 67)]) [] σ K := by
    refine mjZ_y rfl rfl 15 _ _ _ _ ty ?_
    refine (bn_t (ne 64 (by decide)) (bn_t (ne 65 (by decide)) (bn_t (ne 70 (by decide)) (bk_t rfl (And.intro (Nat.le_of_ble_eq_true rfl) (And.intro rfl (And.intro (Nat.le_of_ble_eq_true rfl) (And.intro (Nat.le_of_ble_eq_true rfl) (mjY_mono ty (fun q_ u1 ty1 h_ => ?_) (hh))))))))))
    have h1 := h_
    intro _
    obtain rfl := hK _ _ h1
    refine mjZ_y rfl rfl 1 _ _ _ _ ty1 ?_
    refine And.intro rfl (And.intro rfl ?_)
    exact h1
  refine mjZ_y rfl rfl 18 _ _ _ _ ty ?_
  refine (bk_t rfl (bk_t rfl (bk_t rfl (bk_t rfl (bk_f rfl (And.intro (Nat.le_of_ble_eq_true rfl) (And.intro rfl (And.intro (Nat.le_of_ble_eq_true rfl) (And.intro (Nat.le_of_ble_eq_true rfl) (mjY_mono ty (fun q_ u1 ty1 h_ => ?_) (dq)))))))))))
  have h1 := h_
  intro _
  obtain rfl := hK _ _ h1
  refine mjZ_y rfl rfl 2 _ _ _ _ ty1 ?_
  refine And.intro rfl (And.intro rfl ?_)
  exact h1
set_option maxRecDepth 100000 in
theorem dp_68 {σ : mjS} (ty : mjTY σ) {K : mjK} (hK : ∀ r u, K r u → r = none) (hh : mjY mjPP (mjQQ Y) (d + 7) 124 0 (mjL0 4 [.ref 0, .int (nI 68)]) [] σ K) : mjY mjPP (mjQQ Y) (d + 9) 155 36 [some (.ref 0), some (.int (nI 68))] [] σ K := by
  have ne : ∀ c : Nat, c < 128 ∧ c ≠ 68 → ¬ nI 68 = nI c := fun c hc y => hc.2 ((nI_eq (by decide) (by omega)).mp y).symm
  have dq : mjY mjPP (mjQQ Y) (d + 8) 160 0 (mjL0 2 [.ref 0, .int (nI 68)]) [] σ K := by
    refine mjZ_y rfl rfl 15 _ _ _ _ ty ?_
    refine (bn_t (ne 64 (by decide)) (bn_t (ne 65 (by decide)) (bn_t (ne 70 (by decide)) (bk_t rfl (And.intro (Nat.le_of_ble_eq_true rfl) (And.intro rfl (And.intro (Nat.le_of_ble_eq_true rfl) (And.intro (Nat.le_of_ble_eq_true rfl) (mjY_mono ty (fun q_ u1 ty1 h_ => ?_) (hh))))))))))
    have h1 := h_
    intro _
    obtain rfl := hK _ _ h1
    refine mjZ_y rfl rfl 1 _ _ _ _ ty1 ?_
    refine And.intro rfl (And.intro rfl ?_)
    exact h1
  refine mjZ_y rfl rfl 18 _ _ _ _ ty ?_
  refine (bk_t rfl (bk_t rfl (bk_t rfl (bk_t rfl (bk_f rfl (And.intro (Nat.le_of_ble_eq_true rfl) (And.intro rfl (And.intro (Nat.le_of_ble_eq_true rfl) (And.intro (Nat.le_of_ble_eq_true rfl) (mjY_mono ty (fun q_ u1 ty1 h_ => ?_) (dq)))))))))))
  have h1 := h_
  intro _
  obtain rfl := hK _ _ h1
  refine mjZ_y rfl rfl 2 _ _ _ _ ty1 ?_
  refine And.intro rfl (And.intro rfl ?_)
  exact h1
set_option maxRecDepth 100000 in
theorem dp_69 {σ : mjS} (ty : mjTY σ) {K : mjK} (hK : ∀ r u, K r u → r = none) (hh : mjY mjPP (mjQQ Y) (d + 7) 124 0 (mjL0 4 [.ref 0, .int (nI 69)]) [] σ K) : mjY mjPP (mjQQ Y) (d + 9) 155 36 [some (.ref 0), some (.int (nI 69))] [] σ K := by
  have ne : ∀ c : Nat, c < 128 ∧ c ≠ 69 → ¬ nI 69 = nI c := fun c hc y => hc.2 ((nI_eq (by decide) (by omega)).mp y).symm
  have dq : mjY mjPP (mjQQ Y) (d + 8) 160 0 (mjL0 2 [.ref 0, .int (nI 69)]) [] σ K := by
    refine mjZ_y rfl rfl 15 _ _ _ _ ty ?_
    refine (bn_t (ne 64 (by decide)) (bn_t (ne 65 (by decide)) (bn_t (ne 70 (by decide)) (bk_t rfl (And.intro (Nat.le_of_ble_eq_true rfl) (And.intro rfl (And.intro (Nat.le_of_ble_eq_true rfl) (And.intro (Nat.le_of_ble_eq_true rfl) (mjY_mono ty (fun q_ u1 ty1 h_ => ?_) (hh))))))))))
    have h1 := h_
    intro _
    obtain rfl := hK _ _ h1
    refine mjZ_y rfl rfl 1 _ _ _ _ ty1 ?_
    refine And.intro rfl (And.intro rfl ?_)
    exact h1
  refine mjZ_y rfl rfl 18 _ _ _ _ ty ?_
  refine (bk_t rfl (bk_t rfl (bk_t rfl (bk_t rfl (bk_f rfl (And.intro (Nat.le_of_ble_eq_true rfl) (And.intro rfl (And.intro (Nat.le_of_ble_eq_true rfl) (And.intro (Nat.le_of_ble_eq_true rfl) (mjY_mono ty (fun q_ u1 ty1 h_ => ?_) (dq)))))))))))
  have h1 := h_
  intro _
  obtain rfl := hK _ _ h1
  refine mjZ_y rfl rfl 2 _ _ _ _ ty1 ?_
  refine And.intro rfl (And.intro rfl ?_)
  exact h1
set_option maxRecDepth 100000 in
theorem dp_70 {σ : mjS} (ty : mjTY σ) {K : mjK} (hK : ∀ r u, K r u → r = none) (hh : mjY mjPP (mjQQ Y) (d + 7) 125 0 (mjL0 4 [.ref 0]) [] σ K) : mjY mjPP (mjQQ Y) (d + 9) 155 36 [some (.ref 0), some (.int (nI 70))] [] σ K := by
  have ne : ∀ c : Nat, c < 128 ∧ c ≠ 70 → ¬ nI 70 = nI c := fun c hc y => hc.2 ((nI_eq (by decide) (by omega)).mp y).symm
  have dq : mjY mjPP (mjQQ Y) (d + 8) 160 0 (mjL0 2 [.ref 0, .int (nI 70)]) [] σ K := by
    refine mjZ_y rfl rfl 11 _ _ _ _ ty ?_
    refine (bn_t (ne 64 (by decide)) (bn_t (ne 65 (by decide)) (bn_f (fun n => n rfl) (And.intro (Nat.le_of_ble_eq_true rfl) (And.intro rfl (And.intro (Nat.le_of_ble_eq_true rfl) (And.intro (Nat.le_of_ble_eq_true rfl) (mjY_mono ty (fun q_ u1 ty1 h_ => ?_) (hh)))))))))
    have h1 := h_
    intro _
    obtain rfl := hK _ _ h1
    refine mjZ_y rfl rfl 2 _ _ _ _ ty1 ?_
    refine And.intro rfl (And.intro rfl ?_)
    exact h1
  refine mjZ_y rfl rfl 18 _ _ _ _ ty ?_
  refine (bk_t rfl (bk_t rfl (bk_t rfl (bk_t rfl (bk_f rfl (And.intro (Nat.le_of_ble_eq_true rfl) (And.intro rfl (And.intro (Nat.le_of_ble_eq_true rfl) (And.intro (Nat.le_of_ble_eq_true rfl) (mjY_mono ty (fun q_ u1 ty1 h_ => ?_) (dq)))))))))))
  have h1 := h_
  intro _
  obtain rfl := hK _ _ h1
  refine mjZ_y rfl rfl 2 _ _ _ _ ty1 ?_
  refine And.intro rfl (And.intro rfl ?_)
  exact h1
set_option maxRecDepth 100000 in
theorem dp_71 {σ : mjS} (ty : mjTY σ) {K : mjK} (hK : ∀ r u, K r u → r = none) (hh : mjY mjPP (mjQQ Y) (d + 7) 130 0 (mjL0 5 [.ref 0, .int (nI 71)]) [] σ K) : mjY mjPP (mjQQ Y) (d + 9) 155 36 [some (.ref 0), some (.int (nI 71))] [] σ K := by
  have ne : ∀ c : Nat, c < 128 ∧ c ≠ 71 → ¬ nI 71 = nI c := fun c hc y => hc.2 ((nI_eq (by decide) (by omega)).mp y).symm
  have dq : mjY mjPP (mjQQ Y) (d + 8) 160 0 (mjL0 2 [.ref 0, .int (nI 71)]) [] σ K := by
    refine mjZ_y rfl rfl 18 _ _ _ _ ty ?_
    refine (bn_t (ne 64 (by decide)) (bn_t (ne 65 (by decide)) (bn_t (ne 70 (by decide)) (bk_f rfl (bk_f rfl (And.intro (Nat.le_of_ble_eq_true rfl) (And.intro rfl (And.intro (Nat.le_of_ble_eq_true rfl) (And.intro (Nat.le_of_ble_eq_true rfl) (mjY_mono ty (fun q_ u1 ty1 h_ => ?_) (hh)))))))))))
    have h1 := h_
    intro _
    obtain rfl := hK _ _ h1
    refine mjZ_y rfl rfl 2 _ _ _ _ ty1 ?_
    refine And.intro rfl (And.intro rfl ?_)
    exact h1
  refine mjZ_y rfl rfl 18 _ _ _ _ ty ?_
  refine (bk_t rfl (bk_t rfl (bk_t rfl (bk_t rfl (bk_f rfl (And.intro (Nat.le_of_ble_eq_true rfl) (And.intro rfl (And.intro (Nat.le_of_ble_eq_true rfl) (And.intro (Nat.le_of_ble_eq_true rfl) (mjY_mono ty (fun q_ u1 ty1 h_ => ?_) (dq)))))))))))
  have h1 := h_
  intro _
  obtain rfl := hK _ _ h1
  refine mjZ_y rfl rfl 2 _ _ _ _ ty1 ?_
  refine And.intro rfl (And.intro rfl ?_)
  exact h1
set_option maxRecDepth 100000 in
theorem dp_72 {σ : mjS} (ty : mjTY σ) {K : mjK} (hK : ∀ r u, K r u → r = none) (hh : mjY mjPP (mjQQ Y) (d + 7) 130 0 (mjL0 5 [.ref 0, .int (nI 72)]) [] σ K) : mjY mjPP (mjQQ Y) (d + 9) 155 36 [some (.ref 0), some (.int (nI 72))] [] σ K := by
  have ne : ∀ c : Nat, c < 128 ∧ c ≠ 72 → ¬ nI 72 = nI c := fun c hc y => hc.2 ((nI_eq (by decide) (by omega)).mp y).symm
  have dq : mjY mjPP (mjQQ Y) (d + 8) 160 0 (mjL0 2 [.ref 0, .int (nI 72)]) [] σ K := by
    refine mjZ_y rfl rfl 18 _ _ _ _ ty ?_
    refine (bn_t (ne 64 (by decide)) (bn_t (ne 65 (by decide)) (bn_t (ne 70 (by decide)) (bk_f rfl (bk_f rfl (And.intro (Nat.le_of_ble_eq_true rfl) (And.intro rfl (And.intro (Nat.le_of_ble_eq_true rfl) (And.intro (Nat.le_of_ble_eq_true rfl) (mjY_mono ty (fun q_ u1 ty1 h_ => ?_) (hh)))))))))))
    have h1 := h_
    intro _
    obtain rfl := hK _ _ h1
    refine mjZ_y rfl rfl 2 _ _ _ _ ty1 ?_
    refine And.intro rfl (And.intro rfl ?_)
    exact h1
  refine mjZ_y rfl rfl 18 _ _ _ _ ty ?_
  refine (bk_t rfl (bk_t rfl (bk_t rfl (bk_t rfl (bk_f rfl (And.intro (Nat.le_of_ble_eq_true rfl) (And.intro rfl (And.intro (Nat.le_of_ble_eq_true rfl) (And.intro (Nat.le_of_ble_eq_true rfl) (mjY_mono ty (fun q_ u1 ty1 h_ => ?_) (dq)))))))))))
  have h1 := h_
  intro _
  obtain rfl := hK _ _ h1
  refine mjZ_y rfl rfl 2 _ _ _ _ ty1 ?_
  refine And.intro rfl (And.intro rfl ?_)
  exact h1
set_option maxRecDepth 100000 in
theorem dp_73 {σ : mjS} (ty : mjTY σ) {K : mjK} (hK : ∀ r u, K r u → r = none) (hh : mjY mjPP (mjQQ Y) (d + 7) 130 0 (mjL0 5 [.ref 0, .int (nI 73)]) [] σ K) : mjY mjPP (mjQQ Y) (d + 9) 155 36 [some (.ref 0), some (.int (nI 73))] [] σ K := by
  have ne : ∀ c : Nat, c < 128 ∧ c ≠ 73 → ¬ nI 73 = nI c := fun c hc y => hc.2 ((nI_eq (by decide) (by omega)).mp y).symm
  have dq : mjY mjPP (mjQQ Y) (d + 8) 160 0 (mjL0 2 [.ref 0, .int (nI 73)]) [] σ K := by
    refine mjZ_y rfl rfl 18 _ _ _ _ ty ?_
    refine (bn_t (ne 64 (by decide)) (bn_t (ne 65 (by decide)) (bn_t (ne 70 (by decide)) (bk_f rfl (bk_f rfl (And.intro (Nat.le_of_ble_eq_true rfl) (And.intro rfl (And.intro (Nat.le_of_ble_eq_true rfl) (And.intro (Nat.le_of_ble_eq_true rfl) (mjY_mono ty (fun q_ u1 ty1 h_ => ?_) (hh)))))))))))
    have h1 := h_
    intro _
    obtain rfl := hK _ _ h1
    refine mjZ_y rfl rfl 2 _ _ _ _ ty1 ?_
    refine And.intro rfl (And.intro rfl ?_)
    exact h1
  refine mjZ_y rfl rfl 18 _ _ _ _ ty ?_
  refine (bk_t rfl (bk_t rfl (bk_t rfl (bk_t rfl (bk_f rfl (And.intro (Nat.le_of_ble_eq_true rfl) (And.intro rfl (And.intro (Nat.le_of_ble_eq_true rfl) (And.intro (Nat.le_of_ble_eq_true rfl) (mjY_mono ty (fun q_ u1 ty1 h_ => ?_) (dq)))))))))))
  have h1 := h_
  intro _
  obtain rfl := hK _ _ h1
  refine mjZ_y rfl rfl 2 _ _ _ _ ty1 ?_
  refine And.intro rfl (And.intro rfl ?_)
  exact h1
set_option maxRecDepth 100000 in
theorem dp_74 {σ : mjS} (ty : mjTY σ) {K : mjK} (hK : ∀ r u, K r u → r = none) (hh : mjY mjPP (mjQQ Y) (d + 7) 130 0 (mjL0 5 [.ref 0, .int (nI 74)]) [] σ K) : mjY mjPP (mjQQ Y) (d + 9) 155 36 [some (.ref 0), some (.int (nI 74))] [] σ K := by
  have ne : ∀ c : Nat, c < 128 ∧ c ≠ 74 → ¬ nI 74 = nI c := fun c hc y => hc.2 ((nI_eq (by decide) (by omega)).mp y).symm
  have dq : mjY mjPP (mjQQ Y) (d + 8) 160 0 (mjL0 2 [.ref 0, .int (nI 74)]) [] σ K := by
    refine mjZ_y rfl rfl 18 _ _ _ _ ty ?_
    refine (bn_t (ne 64 (by decide)) (bn_t (ne 65 (by decide)) (bn_t (ne 70 (by decide)) (bk_f rfl (bk_f rfl (And.intro (Nat.le_of_ble_eq_true rfl) (And.intro rfl (And.intro (Nat.le_of_ble_eq_true rfl) (And.intro (Nat.le_of_ble_eq_true rfl) (mjY_mono ty (fun q_ u1 ty1 h_ => ?_) (hh)))))))))))
    have h1 := h_
    intro _
    obtain rfl := hK _ _ h1
    refine mjZ_y rfl rfl 2 _ _ _ _ ty1 ?_
    refine And.intro rfl (And.intro rfl ?_)
    exact h1
  refine mjZ_y rfl rfl 18 _ _ _ _ ty ?_
  refine (bk_t rfl (bk_t rfl (bk_t rfl (bk_t rfl (bk_f rfl (And.intro (Nat.le_of_ble_eq_true rfl) (And.intro rfl (And.intro (Nat.le_of_ble_eq_true rfl) (And.intro (Nat.le_of_ble_eq_true rfl) (mjY_mono ty (fun q_ u1 ty1 h_ => ?_) (dq)))))))))))
  have h1 := h_
  intro _
  obtain rfl := hK _ _ h1
  refine mjZ_y rfl rfl 2 _ _ _ _ ty1 ?_
  refine And.intro rfl (And.intro rfl ?_)
  exact h1
set_option maxRecDepth 100000 in
theorem dp_75 {σ : mjS} (ty : mjTY σ) {K : mjK} (hK : ∀ r u, K r u → r = none) (hh : mjY mjPP (mjQQ Y) (d + 7) 130 0 (mjL0 5 [.ref 0, .int (nI 75)]) [] σ K) : mjY mjPP (mjQQ Y) (d + 9) 155 36 [some (.ref 0), some (.int (nI 75))] [] σ K := by
  have ne : ∀ c : Nat, c < 128 ∧ c ≠ 75 → ¬ nI 75 = nI c := fun c hc y => hc.2 ((nI_eq (by decide) (by omega)).mp y).symm
  have dq : mjY mjPP (mjQQ Y) (d + 8) 160 0 (mjL0 2 [.ref 0, .int (nI 75)]) [] σ K := by
    refine mjZ_y rfl rfl 18 _ _ _ _ ty ?_
    refine (bn_t (ne 64 (by decide)) (bn_t (ne 65 (by decide)) (bn_t (ne 70 (by decide)) (bk_f rfl (bk_f rfl (And.intro (Nat.le_of_ble_eq_true rfl) (And.intro rfl (And.intro (Nat.le_of_ble_eq_true rfl) (And.intro (Nat.le_of_ble_eq_true rfl) (mjY_mono ty (fun q_ u1 ty1 h_ => ?_) (hh)))))))))))
    have h1 := h_
    intro _
    obtain rfl := hK _ _ h1
    refine mjZ_y rfl rfl 2 _ _ _ _ ty1 ?_
    refine And.intro rfl (And.intro rfl ?_)
    exact h1
  refine mjZ_y rfl rfl 18 _ _ _ _ ty ?_
  refine (bk_t rfl (bk_t rfl (bk_t rfl (bk_t rfl (bk_f rfl (And.intro (Nat.le_of_ble_eq_true rfl) (And.intro rfl (And.intro (Nat.le_of_ble_eq_true rfl) (And.intro (Nat.le_of_ble_eq_true rfl) (mjY_mono ty (fun q_ u1 ty1 h_ => ?_) (dq)))))))))))
  have h1 := h_
  intro _
  obtain rfl := hK _ _ h1
  refine mjZ_y rfl rfl 2 _ _ _ _ ty1 ?_
  refine And.intro rfl (And.intro rfl ?_)
  exact h1
set_option maxRecDepth 100000 in
theorem dp_76 {σ : mjS} (ty : mjTY σ) {K : mjK} (hK : ∀ r u, K r u → r = none) (hh : mjY mjPP (mjQQ Y) (d + 7) 130 0 (mjL0 5 [.ref 0, .int (nI 76)]) [] σ K) : mjY mjPP (mjQQ Y) (d + 9) 155 36 [some (.ref 0), some (.int (nI 76))] [] σ K := by
  have ne : ∀ c : Nat, c < 128 ∧ c ≠ 76 → ¬ nI 76 = nI c := fun c hc y => hc.2 ((nI_eq (by decide) (by omega)).mp y).symm
  have dq : mjY mjPP (mjQQ Y) (d + 8) 160 0 (mjL0 2 [.ref 0, .int (nI 76)]) [] σ K := by
    refine mjZ_y rfl rfl 18 _ _ _ _ ty ?_
    refine (bn_t (ne 64 (by decide)) (bn_t (ne 65 (by decide)) (bn_t (ne 70 (by decide)) (bk_f rfl (bk_f rfl (And.intro (Nat.le_of_ble_eq_true rfl) (And.intro rfl (And.intro (Nat.le_of_ble_eq_true rfl) (And.intro (Nat.le_of_ble_eq_true rfl) (mjY_mono ty (fun q_ u1 ty1 h_ => ?_) (hh)))))))))))
    have h1 := h_
    intro _
    obtain rfl := hK _ _ h1
    refine mjZ_y rfl rfl 2 _ _ _ _ ty1 ?_
    refine And.intro rfl (And.intro rfl ?_)
    exact h1
  refine mjZ_y rfl rfl 18 _ _ _ _ ty ?_
  refine (bk_t rfl (bk_t rfl (bk_t rfl (bk_t rfl (bk_f rfl (And.intro (Nat.le_of_ble_eq_true rfl) (And.intro rfl (And.intro (Nat.le_of_ble_eq_true rfl) (And.intro (Nat.le_of_ble_eq_true rfl) (mjY_mono ty (fun q_ u1 ty1 h_ => ?_) (dq)))))))))))
  have h1 := h_
  intro _
  obtain rfl := hK _ _ h1
  refine mjZ_y rfl rfl 2 _ _ _ _ ty1 ?_
  refine And.intro rfl (And.intro rfl ?_)
  exact h1
set_option maxRecDepth 100000 in
theorem dp_77 {σ : mjS} (ty : mjTY σ) {K : mjK} (hK : ∀ r u, K r u → r = none) (hh : mjY mjPP (mjQQ Y) (d + 7) 124 0 (mjL0 4 [.ref 0, .int (nI 77)]) [] σ K) : mjY mjPP (mjQQ Y) (d + 9) 155 36 [some (.ref 0), some (.int (nI 77))] [] σ K := by
  have ne : ∀ c : Nat, c < 128 ∧ c ≠ 77 → ¬ nI 77 = nI c := fun c hc y => hc.2 ((nI_eq (by decide) (by omega)).mp y).symm
  have dq : mjY mjPP (mjQQ Y) (d + 8) 160 0 (mjL0 2 [.ref 0, .int (nI 77)]) [] σ K := by
    refine mjZ_y rfl rfl 18 _ _ _ _ ty ?_
    refine (bn_t (ne 64 (by decide)) (bn_t (ne 65 (by decide)) (bn_t (ne 70 (by decide)) (bk_f rfl (bk_t rfl (And.intro (Nat.le_of_ble_eq_true rfl) (And.intro rfl (And.intro (Nat.le_of_ble_eq_true rfl) (And.intro (Nat.le_of_ble_eq_true rfl) (mjY_mono ty (fun q_ u1 ty1 h_ => ?_) (hh)))))))))))
    have h1 := h_
    intro _
    obtain rfl := hK _ _ h1
    refine mjZ_y rfl rfl 1 _ _ _ _ ty1 ?_
    refine And.intro rfl (And.intro rfl ?_)
    exact h1
  refine mjZ_y rfl rfl 18 _ _ _ _ ty ?_
  refine (bk_t rfl (bk_t rfl (bk_t rfl (bk_t rfl (bk_f rfl (And.intro (Nat.le_of_ble_eq_true rfl) (And.intro rfl (And.intro (Nat.le_of_ble_eq_true rfl) (And.intro (Nat.le_of_ble_eq_true rfl) (mjY_mono ty (fun q_ u1 ty1 h_ => ?_) (dq)))))))))))
  have h1 := h_
  intro _
  obtain rfl := hK _ _ h1
  refine mjZ_y rfl rfl 2 _ _ _ _ ty1 ?_
  refine And.intro rfl (And.intro rfl ?_)
  exact h1
set_option maxRecDepth 100000 in
theorem dp_78 {σ : mjS} (ty : mjTY σ) {K : mjK} (hK : ∀ r u, K r u → r = none) (hh : mjY mjPP (mjQQ Y) (d + 7) 133 0 (mjL0 9 [.ref 0]) [] σ K) : mjY mjPP (mjQQ Y) (d + 9) 155 36 [some (.ref 0), some (.int (nI 78))] [] σ K := by
  have ne : ∀ c : Nat, c < 128 ∧ c ≠ 78 → ¬ nI 78 = nI c := fun c hc y => hc.2 ((nI_eq (by decide) (by omega)).mp y).symm
  have dq : mjY mjPP (mjQQ Y) (d + 8) 161 0 (mjL0 2 [.ref 0, .int (nI 78)]) [] σ K := by
    refine mjZ_y rfl rfl 5 _ _ _ _ ty ?_
    refine (bn_f (fun n => n rfl) (And.intro (Nat.le_of_ble_eq_true rfl) (And.intro rfl (And.intro (Nat.le_of_ble_eq_true rfl) (And.intro (Nat.le_of_ble_eq_true rfl) (mjY_mono ty (fun q_ u1 ty1 h_ => ?_) (hh)))))))
    have h1 := h_
    intro _
    obtain rfl := hK _ _ h1
    refine mjZ_y rfl rfl 2 _ _ _ _ ty1 ?_
    refine And.intro rfl (And.intro rfl ?_)
    exact h1
  refine mjZ_y rfl rfl 21 _ _ _ _ ty ?_
  refine (bk_t rfl (bk_t rfl (bk_t rfl (bk_t rfl (bk_t rfl (bk_f rfl (And.intro (Nat.le_of_ble_eq_true rfl) (And.intro rfl (And.intro (Nat.le_of_ble_eq_true rfl) (And.intro (Nat.le_of_ble_eq_true rfl) (mjY_mono ty (fun q_ u1 ty1 h_ => ?_) (dq))))))))))))
  have h1 := h_
  intro _
  obtain rfl := hK _ _ h1
  refine mjZ_y rfl rfl 2 _ _ _ _ ty1 ?_
  refine And.intro rfl (And.intro rfl ?_)
  exact h1
set_option maxRecDepth 100000 in
theorem dp_79 {σ : mjS} (ty : mjTY σ) {K : mjK} (hK : ∀ r u, K r u → r = none) (hh : mjY mjPP (mjQQ Y) (d + 7) 122 0 (mjL0 6 [.ref 0, .int (nI 79)]) [] σ K) : mjY mjPP (mjQQ Y) (d + 9) 155 36 [some (.ref 0), some (.int (nI 79))] [] σ K := by
  have ne : ∀ c : Nat, c < 128 ∧ c ≠ 79 → ¬ nI 79 = nI c := fun c hc y => hc.2 ((nI_eq (by decide) (by omega)).mp y).symm
  have dq : mjY mjPP (mjQQ Y) (d + 8) 161 0 (mjL0 2 [.ref 0, .int (nI 79)]) [] σ K := by
    refine mjZ_y rfl rfl 9 _ _ _ _ ty ?_
    refine (bn_t (ne 78 (by decide)) (bn_f (fun n => n rfl) (And.intro (Nat.le_of_ble_eq_true rfl) (And.intro rfl (And.intro (Nat.le_of_ble_eq_true rfl) (And.intro (Nat.le_of_ble_eq_true rfl) (mjY_mono ty (fun q_ u1 ty1 h_ => ?_) (hh))))))))
    have h1 := h_
    intro _
    obtain rfl := hK _ _ h1
    refine mjZ_y rfl rfl 2 _ _ _ _ ty1 ?_
    refine And.intro rfl (And.intro rfl ?_)
    exact h1
  refine mjZ_y rfl rfl 21 _ _ _ _ ty ?_
  refine (bk_t rfl (bk_t rfl (bk_t rfl (bk_t rfl (bk_t rfl (bk_f rfl (And.intro (Nat.le_of_ble_eq_true rfl) (And.intro rfl (And.intro (Nat.le_of_ble_eq_true rfl) (And.intro (Nat.le_of_ble_eq_true rfl) (mjY_mono ty (fun q_ u1 ty1 h_ => ?_) (dq))))))))))))
  have h1 := h_
  intro _
  obtain rfl := hK _ _ h1
  refine mjZ_y rfl rfl 2 _ _ _ _ ty1 ?_
  refine And.intro rfl (And.intro rfl ?_)
  exact h1
set_option maxRecDepth 100000 in
theorem dp_80 {σ : mjS} (ty : mjTY σ) {K : mjK} (hK : ∀ r u, K r u → r = none) (hh : mjY mjPP (mjQQ Y) (d + 7) 135 0 (mjL0 6 [.ref 0, .int (nI 80)]) [] σ K) : mjY mjPP (mjQQ Y) (d + 9) 155 36 [some (.ref 0), some (.int (nI 80))] [] σ K := by
  have ne : ∀ c : Nat, c < 128 ∧ c ≠ 80 → ¬ nI 80 = nI c := fun c hc y => hc.2 ((nI_eq (by decide) (by omega)).mp y).symm
  have dq : mjY mjPP (mjQQ Y) (d + 8) 161 0 (mjL0 2 [.ref 0, .int (nI 80)]) [] σ K := by
    refine mjZ_y rfl rfl 39 _ _ _ _ ty ?_
    refine (bn_t (ne 78 (by decide)) (bn_t (ne 79 (by decide)) (bn_t (ne 81 (by decide)) (bn_f (ne 85 (by decide)) (bn_t (ne 86 (by decide)) (bn_f (ne 87 (by decide)) (bn_t (ne 88 (by decide)) (bn_f (ne 89 (by decide)) (bn_f (ne 90 (by decide)) (bn_t (ne 91 (by decide)) (bn_f (ne 92 (by decide)) (bn_t (ne 93 (by decide)) (And.intro (Nat.le_of_ble_eq_true rfl) (And.intro rfl (And.intro (Nat.le_of_ble_eq_true rfl) (And.intro (Nat.le_of_ble_eq_true rfl) (mjY_mono ty (fun q_ u1 ty1 h_ => ?_) (hh))))))))))))))))))
    have h1 := h_
    intro _
    obtain rfl := hK _ _ h1
    refine mjZ_y rfl rfl 1 _ _ _ _ ty1 ?_
    refine And.intro rfl (And.intro rfl ?_)
    exact h1
  refine mjZ_y rfl rfl 21 _ _ _ _ ty ?_
  refine (bk_t rfl (bk_t rfl (bk_t rfl (bk_t rfl (bk_t rfl (bk_f rfl (And.intro (Nat.le_of_ble_eq_true rfl) (And.intro rfl (And.intro (Nat.le_of_ble_eq_true rfl) (And.intro (Nat.le_of_ble_eq_true rfl) (mjY_mono ty (fun q_ u1 ty1 h_ => ?_) (dq))))))))))))
  have h1 := h_
  intro _
  obtain rfl := hK _ _ h1
  refine mjZ_y rfl rfl 2 _ _ _ _ ty1 ?_
  refine And.intro rfl (And.intro rfl ?_)
  exact h1
set_option maxRecDepth 100000 in
theorem dp_81 {σ : mjS} (ty : mjTY σ) {K : mjK} (hK : ∀ r u, K r u → r = none) (hh : mjY mjPP (mjQQ Y) (d + 7) 134 0 (mjL0 5 [.ref 0]) [] σ K) : mjY mjPP (mjQQ Y) (d + 9) 155 36 [some (.ref 0), some (.int (nI 81))] [] σ K := by
  have ne : ∀ c : Nat, c < 128 ∧ c ≠ 81 → ¬ nI 81 = nI c := fun c hc y => hc.2 ((nI_eq (by decide) (by omega)).mp y).symm
  have dq : mjY mjPP (mjQQ Y) (d + 8) 161 0 (mjL0 2 [.ref 0, .int (nI 81)]) [] σ K := by
    refine mjZ_y rfl rfl 11 _ _ _ _ ty ?_
    refine (bn_t (ne 78 (by decide)) (bn_t (ne 79 (by decide)) (bn_f (fun n => n rfl) (And.intro (Nat.le_of_ble_eq_true rfl) (And.intro rfl (And.intro (Nat.le_of_ble_eq_true rfl) (And.intro (Nat.le_of_ble_eq_true rfl) (mjY_mono ty (fun q_ u1 ty1 h_ => ?_) (hh)))))))))
    have h1 := h_
    intro _
    obtain rfl := hK _ _ h1
    refine mjZ_y rfl rfl 2 _ _ _ _ ty1 ?_
    refine And.intro rfl (And.intro rfl ?_)
    exact h1
  refine mjZ_y rfl rfl 21 _ _ _ _ ty ?_
  refine (bk_t rfl (bk_t rfl (bk_t rfl (bk_t rfl (bk_t rfl (bk_f rfl (And.intro (Nat.le_of_ble_eq_true rfl) (And.intro rfl (And.intro (Nat.le_of_ble_eq_true rfl) (And.intro (Nat.le_of_ble_eq_true rfl) (mjY_mono ty (fun q_ u1 ty1 h_ => ?_) (dq))))))))))))
  have h1 := h_
  intro _
  obtain rfl := hK _ _ h1
  refine mjZ_y rfl rfl 2 _ _ _ _ ty1 ?_
  refine And.intro rfl (And.intro rfl ?_)
  exact h1
set_option maxRecDepth 100000 in
theorem dp_82 {σ : mjS} (ty : mjTY σ) {K : mjK} (hK : ∀ r u, K r u → r = none) (hh : mjY mjPP (mjQQ Y) (d + 7) 135 0 (mjL0 6 [.ref 0, .int (nI 82)]) [] σ K) : mjY mjPP (mjQQ Y) (d + 9) 155 36 [some (.ref 0), some (.int (nI 82))] [] σ K := by
  have ne : ∀ c : Nat, c < 128 ∧ c ≠ 82 → ¬ nI 82 = nI c := fun c hc y => hc.2 ((nI_eq (by decide) (by omega)).mp y).symm
  have dq : mjY mjPP (mjQQ Y) (d + 8) 161 0 (mjL0 2 [.ref 0, .int (nI 82)]) [] σ K := by
    refine mjZ_y rfl rfl 39 _ _ _ _ ty ?_
    refine (bn_t (ne 78 (by decide)) (bn_t (ne 79 (by decide)) (bn_t (ne 81 (by decide)) (bn_f (ne 85 (by decide)) (bn_t (ne 86 (by decide)) (bn_f (ne 87 (by decide)) (bn_t (ne 88 (by decide)) (bn_f (ne 89 (by decide)) (bn_f (ne 90 (by decide)) (bn_t (ne 91 (by decide)) (bn_f (ne 92 (by decide)) (bn_t (ne 93 (by decide)) (And.intro (Nat.le_of_ble_eq_true rfl) (And.intro rfl (And.intro (Nat.le_of_ble_eq_true rfl) (And.intro (Nat.le_of_ble_eq_true rfl) (mjY_mono ty (fun q_ u1 ty1 h_ => ?_) (hh))))))))))))))))))
    have h1 := h_
    intro _
    obtain rfl := hK _ _ h1
    refine mjZ_y rfl rfl 1 _ _ _ _ ty1 ?_
    refine And.intro rfl (And.intro rfl ?_)
    exact h1
  refine mjZ_y rfl rfl 21 _ _ _ _ ty ?_
  refine (bk_t rfl (bk_t rfl (bk_t rfl (bk_t rfl (bk_t rfl (bk_f rfl (And.intro (Nat.le_of_ble_eq_true rfl) (And.intro rfl (And.intro (Nat.le_of_ble_eq_true rfl) (And.intro (Nat.le_of_ble_eq_true rfl) (mjY_mono ty (fun q_ u1 ty1 h_ => ?_) (dq))))))))))))
  have h1 := h_
  intro _
  obtain rfl := hK _ _ h1
  refine mjZ_y rfl rfl 2 _ _ _ _ ty1 ?_
  refine And.intro rfl (And.intro rfl ?_)
  exact h1
set_option maxRecDepth 100000 in
theorem dp_83 {σ : mjS} (ty : mjTY σ) {K : mjK} (hK : ∀ r u, K r u → r = none) (hh : mjY mjPP (mjQQ Y) (d + 7) 135 0 (mjL0 6 [.ref 0, .int (nI 83)]) [] σ K) : mjY mjPP (mjQQ Y) (d + 9) 155 36 [some (.ref 0), some (.int (nI 83))] [] σ K := by
  have ne : ∀ c : Nat, c < 128 ∧ c ≠ 83 → ¬ nI 83 = nI c := fun c hc y => hc.2 ((nI_eq (by decide) (by omega)).mp y).symm
  have dq : mjY mjPP (mjQQ Y) (d + 8) 161 0 (mjL0 2 [.ref 0, .int (nI 83)]) [] σ K := by
    refine mjZ_y rfl rfl 39 _ _ _ _ ty ?_
    refine (bn_t (ne 78 (by decide)) (bn_t (ne 79 (by decide)) (bn_t (ne 81 (by decide)) (bn_f (ne 85 (by decide)) (bn_t (ne 86 (by decide)) (bn_f (ne 87 (by decide)) (bn_t (ne 88 (by decide)) (bn_f (ne 89 (by decide)) (bn_f (ne 90 (by decide)) (bn_t (ne 91 (by decide)) (bn_f (ne 92 (by decide)) (bn_t (ne 93 (by decide)) (And.intro (Nat.le_of_ble_eq_true rfl) (And.intro rfl (And.intro (Nat.le_of_ble_eq_true rfl) (And.intro (Nat.le_of_ble_eq_true rfl) (mjY_mono ty (fun q_ u1 ty1 h_ => ?_) (hh))))))))))))))))))
    have h1 := h_
    intro _
    obtain rfl := hK _ _ h1
    refine mjZ_y rfl rfl 1 _ _ _ _ ty1 ?_
    refine And.intro rfl (And.intro rfl ?_)
    exact h1
  refine mjZ_y rfl rfl 21 _ _ _ _ ty ?_
  refine (bk_t rfl (bk_t rfl (bk_t rfl (bk_t rfl (bk_t rfl (bk_f rfl (And.intro (Nat.le_of_ble_eq_true rfl) (And.intro rfl (And.intro (Nat.le_of_ble_eq_true rfl) (And.intro (Nat.le_of_ble_eq_true rfl) (mjY_mono ty (fun q_ u1 ty1 h_ => ?_) (dq))))))))))))
  have h1 := h_
  intro _
  obtain rfl := hK _ _ h1
  refine mjZ_y rfl rfl 2 _ _ _ _ ty1 ?_
  refine And.intro rfl (And.intro rfl ?_)
  exact h1
set_option maxRecDepth 100000 in
theorem dp_84 {σ : mjS} (ty : mjTY σ) {K : mjK} (hK : ∀ r u, K r u → r = none) (hh : mjY mjPP (mjQQ Y) (d + 7) 135 0 (mjL0 6 [.ref 0, .int (nI 84)]) [] σ K) : mjY mjPP (mjQQ Y) (d + 9) 155 36 [some (.ref 0), some (.int (nI 84))] [] σ K := by
  have ne : ∀ c : Nat, c < 128 ∧ c ≠ 84 → ¬ nI 84 = nI c := fun c hc y => hc.2 ((nI_eq (by decide) (by omega)).mp y).symm
  have dq : mjY mjPP (mjQQ Y) (d + 8) 161 0 (mjL0 2 [.ref 0, .int (nI 84)]) [] σ K := by
    refine mjZ_y rfl rfl 39 _ _ _ _ ty ?_
    refine (bn_t (ne 78 (by decide)) (bn_t (ne 79 (by decide)) (bn_t (ne 81 (by decide)) (bn_f (ne 85 (by decide)) (bn_t (ne 86 (by decide)) (bn_f (ne 87 (by decide)) (bn_t (ne 88 (by decide)) (bn_f (ne 89 (by decide)) (bn_f (ne 90 (by decide)) (bn_t (ne 91 (by decide)) (bn_f (ne 92 (by decide)) (bn_t (ne 93 (by decide)) (And.intro (Nat.le_of_ble_eq_true rfl) (And.intro rfl (And.intro (Nat.le_of_ble_eq_true rfl) (And.intro (Nat.le_of_ble_eq_true rfl) (mjY_mono ty (fun q_ u1 ty1 h_ => ?_) (hh))))))))))))))))))
    have h1 := h_
    intro _
    obtain rfl := hK _ _ h1
    refine mjZ_y rfl rfl 1 _ _ _ _ ty1 ?_
    refine And.intro rfl (And.intro rfl ?_)
    exact h1
  refine mjZ_y rfl rfl 21 _ _ _ _ ty ?_
  refine (bk_t rfl (bk_t rfl (bk_t rfl (bk_t rfl (bk_t rfl (bk_f rfl (And.intro (Nat.le_of_ble_eq_true rfl) (And.intro rfl (And.intro (Nat.le_of_ble_eq_true rfl) (And.intro (Nat.le_of_ble_eq_true rfl) (mjY_mono ty (fun q_ u1 ty1 h_ => ?_) (dq))))))))))))
  have h1 := h_
  intro _
  obtain rfl := hK _ _ h1
  refine mjZ_y rfl rfl 2 _ _ _ _ ty1 ?_
  refine And.intro rfl (And.intro rfl ?_)
  exact h1
set_option maxRecDepth 100000 in
theorem dp_85 {σ : mjS} (ty : mjTY σ) {K : mjK} (hK : ∀ r u, K r u → r = none) (hh : mjY mjPP (mjQQ Y) (d + 7) 137 0 (mjL0 6 [.ref 0, .int (nI 85)]) [] σ K) : mjY mjPP (mjQQ Y) (d + 9) 155 36 [some (.ref 0), some (.int (nI 85))] [] σ K := by
  have ne : ∀ c : Nat, c < 128 ∧ c ≠ 85 → ¬ nI 85 = nI c := fun c hc y => hc.2 ((nI_eq (by decide) (by omega)).mp y).symm
  have dq : mjY mjPP (mjQQ Y) (d + 8) 161 0 (mjL0 2 [.ref 0, .int (nI 85)]) [] σ K := by
    refine mjZ_y rfl rfl 15 _ _ _ _ ty ?_
    refine (bn_t (ne 78 (by decide)) (bn_t (ne 79 (by decide)) (bn_t (ne 81 (by decide)) (bn_t rfl (And.intro (Nat.le_of_ble_eq_true rfl) (And.intro rfl (And.intro (Nat.le_of_ble_eq_true rfl) (And.intro (Nat.le_of_ble_eq_true rfl) (mjY_mono ty (fun q_ u1 ty1 h_ => ?_) (hh))))))))))
    have h1 := h_
    intro _
    obtain rfl := hK _ _ h1
    refine mjZ_y rfl rfl 2 _ _ _ _ ty1 ?_
    refine And.intro rfl (And.intro rfl ?_)
    exact h1
  refine mjZ_y rfl rfl 21 _ _ _ _ ty ?_
  refine (bk_t rfl (bk_t rfl (bk_t rfl (bk_t rfl (bk_t rfl (bk_f rfl (And.intro (Nat.le_of_ble_eq_true rfl) (And.intro rfl (And.intro (Nat.le_of_ble_eq_true rfl) (And.intro (Nat.le_of_ble_eq_true rfl) (mjY_mono ty (fun q_ u1 ty1 h_ => ?_) (dq))))))))))))
  have h1 := h_
  intro _
  obtain rfl := hK _ _ h1
  refine mjZ_y rfl rfl 2 _ _ _ _ ty1 ?_
  refine And.intro rfl (And.intro rfl ?_)
  exact h1
set_option maxRecDepth 100000 in
theorem dp_86 {σ : mjS} (ty : mjTY σ) {K : mjK} (hK : ∀ r u, K r u → r = none) (hh : mjY mjPP (mjQQ Y) (d + 7) 137 0 (mjL0 6 [.ref 0, .int (nI 86)]) [] σ K) : mjY mjPP (mjQQ Y) (d + 9) 155 36 [some (.ref 0), some (.int (nI 86))] [] σ K := by
  have ne : ∀ c : Nat, c < 128 ∧ c ≠ 86 → ¬ nI 86 = nI c := fun c hc y => hc.2 ((nI_eq (by decide) (by omega)).mp y).symm
  have dq : mjY mjPP (mjQQ Y) (d + 8) 161 0 (mjL0 2 [.ref 0, .int (nI 86)]) [] σ K := by
    refine mjZ_y rfl rfl 18 _ _ _ _ ty ?_
    refine (bn_t (ne 78 (by decide)) (bn_t (ne 79 (by decide)) (bn_t (ne 81 (by decide)) (bn_f (ne 85 (by decide)) (bn_f (fun n => n rfl) (And.intro (Nat.le_of_ble_eq_true rfl) (And.intro rfl (And.intro (Nat.le_of_ble_eq_true rfl) (And.intro (Nat.le_of_ble_eq_true rfl) (mjY_mono ty (fun q_ u1 ty1 h_ => ?_) (hh)))))))))))
    have h1 := h_
    intro _
    obtain rfl := hK _ _ h1
    refine mjZ_y rfl rfl 2 _ _ _ _ ty1 ?_
    refine And.intro rfl (And.intro rfl ?_)
    exact h1
  refine mjZ_y rfl rfl 21 _ _ _ _ ty ?_
  refine (bk_t rfl (bk_t rfl (bk_t rfl (bk_t rfl (bk_t rfl (bk_f rfl (And.intro (Nat.le_of_ble_eq_true rfl) (And.intro rfl (And.intro (Nat.le_of_ble_eq_true rfl) (And.intro (Nat.le_of_ble_eq_true rfl) (mjY_mono ty (fun q_ u1 ty1 h_ => ?_) (dq))))))))))))
  have h1 := h_
  intro _
  obtain rfl := hK _ _ h1
  refine mjZ_y rfl rfl 2 _ _ _ _ ty1 ?_
  refine And.intro rfl (And.intro rfl ?_)
  exact h1
set_option maxRecDepth 100000 in
theorem dp_87 {σ : mjS} (ty : mjTY σ) {K : mjK} (hK : ∀ r u, K r u → r = none) (hh : mjY mjPP (mjQQ Y) (d + 7) 139 0 (mjL0 11 [.ref 0, .int (nI 87)]) [] σ K) : mjY mjPP (mjQQ Y) (d + 9) 155 36 [some (.ref 0), some (.int (nI 87))] [] σ K := by
  have ne : ∀ c : Nat, c < 128 ∧ c ≠ 87 → ¬ nI 87 = nI c := fun c hc y => hc.2 ((nI_eq (by decide) (by omega)).mp y).symm
  have dq : mjY mjPP (mjQQ Y) (d + 8) 161 0 (mjL0 2 [.ref 0, .int (nI 87)]) [] σ K := by
    refine mjZ_y rfl rfl 21 _ _ _ _ ty ?_
    refine (bn_t (ne 78 (by decide)) (bn_t (ne 79 (by decide)) (bn_t (ne 81 (by decide)) (bn_f (ne 85 (by decide)) (bn_t (ne 86 (by decide)) (bn_t rfl (And.intro (Nat.le_of_ble_eq_true rfl) (And.intro rfl (And.intro (Nat.le_of_ble_eq_true rfl) (And.intro (Nat.le_of_ble_eq_true rfl) (mjY_mono ty (fun q_ u1 ty1 h_ => ?_) (hh))))))))))))
    have h1 := h_
    intro _
    obtain rfl := hK _ _ h1
    refine mjZ_y rfl rfl 2 _ _ _ _ ty1 ?_
    refine And.intro rfl (And.intro rfl ?_)
    exact h1
  refine mjZ_y rfl rfl 21 _ _ _ _ ty ?_
  refine (bk_t rfl (bk_t rfl (bk_t rfl (bk_t rfl (bk_t rfl (bk_f rfl (And.intro (Nat.le_of_ble_eq_true rfl) (And.intro rfl (And.intro (Nat.le_of_ble_eq_true rfl) (And.intro (Nat.le_of_ble_eq_true rfl) (mjY_mono ty (fun q_ u1 ty1 h_ => ?_) (dq))))))))))))
  have h1 := h_
  intro _
  obtain rfl := hK _ _ h1
  refine mjZ_y rfl rfl 2 _ _ _ _ ty1 ?_
  refine And.intro rfl (And.intro rfl ?_)
  exact h1
set_option maxRecDepth 100000 in
theorem dp_88 {σ : mjS} (ty : mjTY σ) {K : mjK} (hK : ∀ r u, K r u → r = none) (hh : mjY mjPP (mjQQ Y) (d + 7) 139 0 (mjL0 11 [.ref 0, .int (nI 88)]) [] σ K) : mjY mjPP (mjQQ Y) (d + 9) 155 36 [some (.ref 0), some (.int (nI 88))] [] σ K := by
  have ne : ∀ c : Nat, c < 128 ∧ c ≠ 88 → ¬ nI 88 = nI c := fun c hc y => hc.2 ((nI_eq (by decide) (by omega)).mp y).symm
  have dq : mjY mjPP (mjQQ Y) (d + 8) 161 0 (mjL0 2 [.ref 0, .int (nI 88)]) [] σ K := by
    refine mjZ_y rfl rfl 24 _ _ _ _ ty ?_
    refine (bn_t (ne 78 (by decide)) (bn_t (ne 79 (by decide)) (bn_t (ne 81 (by decide)) (bn_f (ne 85 (by decide)) (bn_t (ne 86 (by decide)) (bn_f (ne 87 (by decide)) (bn_f (fun n => n rfl) (And.intro (Nat.le_of_ble_eq_true rfl) (And.intro rfl (And.intro (Nat.le_of_ble_eq_true rfl) (And.intro (Nat.le_of_ble_eq_true rfl) (mjY_mono ty (fun q_ u1 ty1 h_ => ?_) (hh)))))))))))))
    have h1 := h_
    intro _
    obtain rfl := hK _ _ h1
    refine mjZ_y rfl rfl 2 _ _ _ _ ty1 ?_
    refine And.intro rfl (And.intro rfl ?_)
    exact h1
  refine mjZ_y rfl rfl 21 _ _ _ _ ty ?_
  refine (bk_t rfl (bk_t rfl (bk_t rfl (bk_t rfl (bk_t rfl (bk_f rfl (And.intro (Nat.le_of_ble_eq_true rfl) (And.intro rfl (And.intro (Nat.le_of_ble_eq_true rfl) (And.intro (Nat.le_of_ble_eq_true rfl) (mjY_mono ty (fun q_ u1 ty1 h_ => ?_) (dq))))))))))))
  have h1 := h_
  intro _
  obtain rfl := hK _ _ h1
  refine mjZ_y rfl rfl 2 _ _ _ _ ty1 ?_
  refine And.intro rfl (And.intro rfl ?_)
  exact h1
set_option maxRecDepth 100000 in
theorem dp_89 {σ : mjS} (ty : mjTY σ) {K : mjK} (hK : ∀ r u, K r u → r = none) (hh : mjY mjPP (mjQQ Y) (d + 7) 140 0 (mjL0 8 [.ref 0, .int (nI 89)]) [] σ K) : mjY mjPP (mjQQ Y) (d + 9) 155 36 [some (.ref 0), some (.int (nI 89))] [] σ K := by
  have ne : ∀ c : Nat, c < 128 ∧ c ≠ 89 → ¬ nI 89 = nI c := fun c hc y => hc.2 ((nI_eq (by decide) (by omega)).mp y).symm
  have dq : mjY mjPP (mjQQ Y) (d + 8) 161 0 (mjL0 2 [.ref 0, .int (nI 89)]) [] σ K := by
    refine mjZ_y rfl rfl 27 _ _ _ _ ty ?_
    refine (bn_t (ne 78 (by decide)) (bn_t (ne 79 (by decide)) (bn_t (ne 81 (by decide)) (bn_f (ne 85 (by decide)) (bn_t (ne 86 (by decide)) (bn_f (ne 87 (by decide)) (bn_t (ne 88 (by decide)) (bn_t rfl (And.intro (Nat.le_of_ble_eq_true rfl) (And.intro rfl (And.intro (Nat.le_of_ble_eq_true rfl) (And.intro (Nat.le_of_ble_eq_true rfl) (mjY_mono ty (fun q_ u1 ty1 h_ => ?_) (hh))))))))))))))
    have h1 := h_
    intro _
    obtain rfl := hK _ _ h1
    refine mjZ_y rfl rfl 2 _ _ _ _ ty1 ?_
    refine And.intro rfl (And.intro rfl ?_)
    exact h1
  refine mjZ_y rfl rfl 21 _ _ _ _ ty ?_
  refine (bk_t rfl (bk_t rfl (bk_t rfl (bk_t rfl (bk_t rfl (bk_f rfl (And.intro (Nat.le_of_ble_eq_true rfl) (And.intro rfl (And.intro (Nat.le_of_ble_eq_true rfl) (And.intro (Nat.le_of_ble_eq_true rfl) (mjY_mono ty (fun q_ u1 ty1 h_ => ?_) (dq))))))))))))
  have h1 := h_
  intro _
  obtain rfl := hK _ _ h1
  refine mjZ_y rfl rfl 2 _ _ _ _ ty1 ?_
  refine And.intro rfl (And.intro rfl ?_)
  exact h1
set_option maxRecDepth 100000 in
theorem dp_90 {σ : mjS} (ty : mjTY σ) {K : mjK} (hK : ∀ r u, K r u → r = none) (hh : mjY mjPP (mjQQ Y) (d + 7) 140 0 (mjL0 8 [.ref 0, .int (nI 90)]) [] σ K) : mjY mjPP (mjQQ Y) (d + 9) 155 36 [some (.ref 0), some (.int (nI 90))] [] σ K := by
  have ne : ∀ c : Nat, c < 128 ∧ c ≠ 90 → ¬ nI 90 = nI c := fun c hc y => hc.2 ((nI_eq (by decide) (by omega)).mp y).symm
  have dq : mjY mjPP (mjQQ Y) (d + 8) 161 0 (mjL0 2 [.ref 0, .int (nI 90)]) [] σ K := by
    refine mjZ_y rfl rfl 30 _ _ _ _ ty ?_
    refine (bn_t (ne 78 (by decide)) (bn_t (ne 79 (by decide)) (bn_t (ne 81 (by decide)) (bn_f (ne 85 (by decide)) (bn_t (ne 86 (by decide)) (bn_f (ne 87 (by decide)) (bn_t (ne 88 (by decide)) (bn_f (ne 89 (by decide)) (bn_t rfl (And.intro (Nat.le_of_ble_eq_true rfl) (And.intro rfl (And.intro (Nat.le_of_ble_eq_true rfl) (And.intro (Nat.le_of_ble_eq_true rfl) (mjY_mono ty (fun q_ u1 ty1 h_ => ?_) (hh)))))))))))))))
    have h1 := h_
    intro _
    obtain rfl := hK _ _ h1
    refine mjZ_y rfl rfl 2 _ _ _ _ ty1 ?_
    refine And.intro rfl (And.intro rfl ?_)
    exact h1
  refine mjZ_y rfl rfl 21 _ _ _ _ ty ?_
  refine (bk_t rfl (bk_t rfl (bk_t rfl (bk_t rfl (bk_t rfl (bk_f rfl (And.intro (Nat.le_of_ble_eq_true rfl) (And.intro rfl (And.intro (Nat.le_of_ble_eq_true rfl) (And.intro (Nat.le_of_ble_eq_true rfl) (mjY_mono ty (fun q_ u1 ty1 h_ => ?_) (dq))))))))))))
  have h1 := h_
  intro _
  obtain rfl := hK _ _ h1
  refine mjZ_y rfl rfl 2 _ _ _ _ ty1 ?_
  refine And.intro rfl (And.intro rfl ?_)
  exact h1
set_option maxRecDepth 100000 in
theorem dp_91 {σ : mjS} (ty : mjTY σ) {K : mjK} (hK : ∀ r u, K r u → r = none) (hh : mjY mjPP (mjQQ Y) (d + 7) 140 0 (mjL0 8 [.ref 0, .int (nI 91)]) [] σ K) : mjY mjPP (mjQQ Y) (d + 9) 155 36 [some (.ref 0), some (.int (nI 91))] [] σ K := by
  have ne : ∀ c : Nat, c < 128 ∧ c ≠ 91 → ¬ nI 91 = nI c := fun c hc y => hc.2 ((nI_eq (by decide) (by omega)).mp y).symm
  have dq : mjY mjPP (mjQQ Y) (d + 8) 161 0 (mjL0 2 [.ref 0, .int (nI 91)]) [] σ K := by
    refine mjZ_y rfl rfl 33 _ _ _ _ ty ?_
    refine (bn_t (ne 78 (by decide)) (bn_t (ne 79 (by decide)) (bn_t (ne 81 (by decide)) (bn_f (ne 85 (by decide)) (bn_t (ne 86 (by decide)) (bn_f (ne 87 (by decide)) (bn_t (ne 88 (by decide)) (bn_f (ne 89 (by decide)) (bn_f (ne 90 (by decide)) (bn_f (fun n => n rfl) (And.intro (Nat.le_of_ble_eq_true rfl) (And.intro rfl (And.intro (Nat.le_of_ble_eq_true rfl) (And.intro (Nat.le_of_ble_eq_true rfl) (mjY_mono ty (fun q_ u1 ty1 h_ => ?_) (hh))))))))))))))))
    have h1 := h_
    intro _
    obtain rfl := hK _ _ h1
    refine mjZ_y rfl rfl 2 _ _ _ _ ty1 ?_
    refine And.intro rfl (And.intro rfl ?_)
    exact h1
  refine mjZ_y rfl rfl 21 _ _ _ _ ty ?_
  refine (bk_t rfl (bk_t rfl (bk_t rfl (bk_t rfl (bk_t rfl (bk_f rfl (And.intro (Nat.le_of_ble_eq_true rfl) (And.intro rfl (And.intro (Nat.le_of_ble_eq_true rfl) (And.intro (Nat.le_of_ble_eq_true rfl) (mjY_mono ty (fun q_ u1 ty1 h_ => ?_) (dq))))))))))))
  have h1 := h_
  intro _
  obtain rfl := hK _ _ h1
  refine mjZ_y rfl rfl 2 _ _ _ _ ty1 ?_
  refine And.intro rfl (And.intro rfl ?_)
  exact h1
set_option maxRecDepth 100000 in
theorem dp_92 {σ : mjS} (ty : mjTY σ) {K : mjK} (hK : ∀ r u, K r u → r = none) (hh : mjY mjPP (mjQQ Y) (d + 7) 141 0 (mjL0 6 [.ref 0, .int (nI 92)]) [] σ K) : mjY mjPP (mjQQ Y) (d + 9) 155 36 [some (.ref 0), some (.int (nI 92))] [] σ K := by
  have ne : ∀ c : Nat, c < 128 ∧ c ≠ 92 → ¬ nI 92 = nI c := fun c hc y => hc.2 ((nI_eq (by decide) (by omega)).mp y).symm
  have dq : mjY mjPP (mjQQ Y) (d + 8) 161 0 (mjL0 2 [.ref 0, .int (nI 92)]) [] σ K := by
    refine mjZ_y rfl rfl 36 _ _ _ _ ty ?_
    refine (bn_t (ne 78 (by decide)) (bn_t (ne 79 (by decide)) (bn_t (ne 81 (by decide)) (bn_f (ne 85 (by decide)) (bn_t (ne 86 (by decide)) (bn_f (ne 87 (by decide)) (bn_t (ne 88 (by decide)) (bn_f (ne 89 (by decide)) (bn_f (ne 90 (by decide)) (bn_t (ne 91 (by decide)) (bn_t rfl (And.intro (Nat.le_of_ble_eq_true rfl) (And.intro rfl (And.intro (Nat.le_of_ble_eq_true rfl) (And.intro (Nat.le_of_ble_eq_true rfl) (mjY_mono ty (fun q_ u1 ty1 h_ => ?_) (hh)))))))))))))))))
    have h1 := h_
    intro _
    obtain rfl := hK _ _ h1
    refine mjZ_y rfl rfl 2 _ _ _ _ ty1 ?_
    refine And.intro rfl (And.intro rfl ?_)
    exact h1
  refine mjZ_y rfl rfl 21 _ _ _ _ ty ?_
  refine (bk_t rfl (bk_t rfl (bk_t rfl (bk_t rfl (bk_t rfl (bk_f rfl (And.intro (Nat.le_of_ble_eq_true rfl) (And.intro rfl (And.intro (Nat.le_of_ble_eq_true rfl) (And.intro (Nat.le_of_ble_eq_true rfl) (mjY_mono ty (fun q_ u1 ty1 h_ => ?_) (dq))))))))))))
  have h1 := h_
  intro _
  obtain rfl := hK _ _ h1
  refine mjZ_y rfl rfl 2 _ _ _ _ ty1 ?_
  refine And.intro rfl (And.intro rfl ?_)
  exact h1
set_option maxRecDepth 100000 in
theorem dp_93 {σ : mjS} (ty : mjTY σ) {K : mjK} (hK : ∀ r u, K r u → r = none) (hh : mjY mjPP (mjQQ Y) (d + 7) 141 0 (mjL0 6 [.ref 0, .int (nI 93)]) [] σ K) : mjY mjPP (mjQQ Y) (d + 9) 155 36 [some (.ref 0), some (.int (nI 93))] [] σ K := by
  have ne : ∀ c : Nat, c < 128 ∧ c ≠ 93 → ¬ nI 93 = nI c := fun c hc y => hc.2 ((nI_eq (by decide) (by omega)).mp y).symm
  have dq : mjY mjPP (mjQQ Y) (d + 8) 161 0 (mjL0 2 [.ref 0, .int (nI 93)]) [] σ K := by
    refine mjZ_y rfl rfl 39 _ _ _ _ ty ?_
    refine (bn_t (ne 78 (by decide)) (bn_t (ne 79 (by decide)) (bn_t (ne 81 (by decide)) (bn_f (ne 85 (by decide)) (bn_t (ne 86 (by decide)) (bn_f (ne 87 (by decide)) (bn_t (ne 88 (by decide)) (bn_f (ne 89 (by decide)) (bn_f (ne 90 (by decide)) (bn_t (ne 91 (by decide)) (bn_f (ne 92 (by decide)) (bn_f (fun n => n rfl) (And.intro (Nat.le_of_ble_eq_true rfl) (And.intro rfl (And.intro (Nat.le_of_ble_eq_true rfl) (And.intro (Nat.le_of_ble_eq_true rfl) (mjY_mono ty (fun q_ u1 ty1 h_ => ?_) (hh))))))))))))))))))
    have h1 := h_
    intro _
    obtain rfl := hK _ _ h1
    refine mjZ_y rfl rfl 2 _ _ _ _ ty1 ?_
    refine And.intro rfl (And.intro rfl ?_)
    exact h1
  refine mjZ_y rfl rfl 21 _ _ _ _ ty ?_
  refine (bk_t rfl (bk_t rfl (bk_t rfl (bk_t rfl (bk_t rfl (bk_f rfl (And.intro (Nat.le_of_ble_eq_true rfl) (And.intro rfl (And.intro (Nat.le_of_ble_eq_true rfl) (And.intro (Nat.le_of_ble_eq_true rfl) (mjY_mono ty (fun q_ u1 ty1 h_ => ?_) (dq))))))))))))
  have h1 := h_
  intro _
  obtain rfl := hK _ _ h1
  refine mjZ_y rfl rfl 2 _ _ _ _ ty1 ?_
  refine And.intro rfl (And.intro rfl ?_)
  exact h1
set_option maxRecDepth 100000 in
theorem dp_104 {σ : mjS} (ty : mjTY σ) {K : mjK} (hK : ∀ r u, K r u → r = none) (hh : mjY mjPP (mjQQ Y) (d + 7) 148 0 (mjL0 5 [.ref 0]) [] σ K) : mjY mjPP (mjQQ Y) (d + 9) 155 36 [some (.ref 0), some (.int (nI 104))] [] σ K := by
  have ne : ∀ c : Nat, c < 128 ∧ c ≠ 104 → ¬ nI 104 = nI c := fun c hc y => hc.2 ((nI_eq (by decide) (by omega)).mp y).symm
  have dq : mjY mjPP (mjQQ Y) (d + 8) 162 0 (mjL0 2 [.ref 0, .int (nI 104)]) [] σ K := by
    refine mjZ_y rfl rfl 17 _ _ _ _ ty ?_
    refine (bn_t (ne 94 (by decide)) (bn_f (ne 94 (by decide)) (bn_t (ne 95 (by decide)) (bn_t (ne 98 (by decide)) (bn_f (fun n => n rfl) (And.intro (Nat.le_of_ble_eq_true rfl) (And.intro rfl (And.intro (Nat.le_of_ble_eq_true rfl) (And.intro (Nat.le_of_ble_eq_true rfl) (mjY_mono ty (fun q_ u1 ty1 h_ => ?_) (hh)))))))))))
    have h1 := h_
    intro _
    obtain rfl := hK _ _ h1
    refine mjZ_y rfl rfl 2 _ _ _ _ ty1 ?_
    refine And.intro rfl (And.intro rfl ?_)
    exact h1
  refine mjZ_y rfl rfl 21 _ _ _ _ ty ?_
  refine (bk_t rfl (bk_t rfl (bk_t rfl (bk_t rfl (bk_t rfl (bk_t rfl (And.intro (Nat.le_of_ble_eq_true rfl) (And.intro rfl (And.intro (Nat.le_of_ble_eq_true rfl) (And.intro (Nat.le_of_ble_eq_true rfl) (mjY_mono ty (fun q_ u1 ty1 h_ => ?_) (dq))))))))))))
  have h1 := h_
  intro _
  obtain rfl := hK _ _ h1
  refine mjZ_y rfl rfl 1 _ _ _ _ ty1 ?_
  refine And.intro rfl (And.intro rfl ?_)
  exact h1
set_option maxRecDepth 100000 in
theorem dp_105 {σ : mjS} (ty : mjTY σ) {K : mjK} (hK : ∀ r u, K r u → r = none) (hh : mjY mjPP (mjQQ Y) (d + 7) 154 0 (mjL0 1 [.ref 0]) [] σ K) : mjY mjPP (mjQQ Y) (d + 9) 155 36 [some (.ref 0), some (.int (nI 105))] [] σ K := by
  have ne : ∀ c : Nat, c < 128 ∧ c ≠ 105 → ¬ nI 105 = nI c := fun c hc y => hc.2 ((nI_eq (by decide) (by omega)).mp y).symm
  have dq : mjY mjPP (mjQQ Y) (d + 8) 162 0 (mjL0 2 [.ref 0, .int (nI 105)]) [] σ K := by
    refine mjZ_y rfl rfl 20 _ _ _ _ ty ?_
    refine (bn_t (ne 94 (by decide)) (bn_f (ne 94 (by decide)) (bn_t (ne 95 (by decide)) (bn_t (ne 98 (by decide)) (bn_t (ne 104 (by decide)) (bn_f (fun n => n rfl) (And.intro (Nat.le_of_ble_eq_true rfl) (And.intro rfl (And.intro (Nat.le_of_ble_eq_true rfl) (And.intro (Nat.le_of_ble_eq_true rfl) (mjY_mono ty (fun q_ u1 ty1 h_ => ?_) (hh))))))))))))
    have h1 := h_
    intro _
    obtain rfl := hK _ _ h1
    refine mjZ_y rfl rfl 1 _ _ _ _ ty1 ?_
    refine And.intro rfl (And.intro rfl ?_)
    exact h1
  refine mjZ_y rfl rfl 21 _ _ _ _ ty ?_
  refine (bk_t rfl (bk_t rfl (bk_t rfl (bk_t rfl (bk_t rfl (bk_t rfl (And.intro (Nat.le_of_ble_eq_true rfl) (And.intro rfl (And.intro (Nat.le_of_ble_eq_true rfl) (And.intro (Nat.le_of_ble_eq_true rfl) (mjY_mono ty (fun q_ u1 ty1 h_ => ?_) (dq))))))))))))
  have h1 := h_
  intro _
  obtain rfl := hK _ _ h1
  refine mjZ_y rfl rfl 1 _ _ _ _ ty1 ?_
  refine And.intro rfl (And.intro rfl ?_)
  exact h1
end ROADS