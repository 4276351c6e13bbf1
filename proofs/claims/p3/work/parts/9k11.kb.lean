/-! What the second reader's rows rest on; the JDK's own small methods. -/
theorem kdk {σ : kS} {h k N : Nat} (e : σ.2.2.2.1 h = (k, N)) : (σ.2.2.2.1 h).1 = k := by rw [e]
theorem kdv {σ : kS} {h k N : Nat} {j : Int32} (e : σ.2.2.2.1 h = (k, N)) (v : vp_in j N) : vp_in j (σ.2.2.2.1 h).2 := by rw [e]; exact v
theorem kdw {σ : kS} {h N : Nat} {j : Int32} (ty : kTY σ) (hh : h < 76) (e : (kd0 h).2 = N) (v : vp_in j N) : vp_in j (σ.2.2.2.1 h).2 := by rw [ty.2.2.1 h hh, e]; exact v
theorem kRow_b {k : Nat} (h : (Nat.beq k 20 || Nat.beq k 21 || Nat.beq k 23 || Nat.beq k 24 || Nat.beq k 25) = true) : kRow k := by
  unfold kRow
  simp only [Bool.or_eq_true] at h
  rcases h with (((h | h) | h) | h) | h
  · exact Or.inl (Nat.eq_of_beq_eq_true h)
  · exact Or.inr (Or.inl (Nat.eq_of_beq_eq_true h))
  · exact Or.inr (Or.inr (Or.inl (Nat.eq_of_beq_eq_true h)))
  · exact Or.inr (Or.inr (Or.inr (Or.inl (Nat.eq_of_beq_eq_true h))))
  · exact Or.inr (Or.inr (Or.inr (Or.inr (Nat.eq_of_beq_eq_true h))))
theorem kTY.lr {σ : kS} (ty : kTY σ) {h k N : Nat} (e : σ.2.2.2.1 h = (k, N)) (hk : ¬ k = 99) : h < σ.2.2.2.2.1 := ty.lt (by rw [e]; exact hk)
theorem kdr {σ : kS} {h : Nat} (ty : kTY σ) (hh : h < 76) (e : (Nat.beq (kd0 h).1 20 || Nat.beq (kd0 h).1 21 || Nat.beq (kd0 h).1 23 || Nat.beq (kd0 h).1 24 || Nat.beq (kd0 h).1 25) = true) : kRow (σ.2.2.2.1 h).1 := by rw [ty.2.2.1 h hh]; exact kRow_b e
theorem kdq {σ : kS} {h k N : Nat} (e : σ.2.2.2.1 h = (k, N)) (g : (Nat.beq k 20 || Nat.beq k 21 || Nat.beq k 23 || Nat.beq k 24 || Nat.beq k 25) = true := by rfl) : kRow (σ.2.2.2.1 h).1 := by rw [e]; exact kRow_b g
section KB
variable {Y : Nat → MethodName × ByteArray} {d : Nat} {σ : kS}
theorem k_max (ty : kTY σ) (a b : Int32) : kjY kPP (kQQ Y) d 300 0 (mjL0 2 [.int a, .int b]) [] σ (fun r u => u = σ ∧ r = some (.int (if a < b then b else a))) := by
  refine kjZ_y rfl rfl 3 _ _ _ _ ty ?_
  refine And.intro (fun c => ?_) (fun c => ?_)
  · refine kjZ_y rfl rfl 2 _ _ _ _ ty ?_
    refine And.intro rfl (And.intro (Or.inl rfl) ?_)
    exact ⟨rfl, by rw [if_pos (show a < b from c)]⟩
  · refine kjZ_y rfl rfl 3 _ _ _ _ ty ?_
    refine And.intro rfl (And.intro (Or.inl rfl) ?_)
    exact ⟨rfl, by rw [if_neg (show ¬ a < b from c)]⟩
theorem k_min (ty : kTY σ) (a b : Int32) : kjY kPP (kQQ Y) d 301 0 (mjL0 2 [.int a, .int b]) [] σ (fun r u => u = σ ∧ r = some (.int (if b < a then b else a))) := by
  refine kjZ_y rfl rfl 3 _ _ _ _ ty ?_
  refine And.intro (fun c => ?_) (fun c => ?_)
  · refine kjZ_y rfl rfl 2 _ _ _ _ ty ?_
    refine And.intro rfl (And.intro (Or.inl rfl) ?_)
    exact ⟨rfl, by rw [if_pos (show b < a from c)]⟩
  · refine kjZ_y rfl rfl 3 _ _ _ _ ty ?_
    refine And.intro rfl (And.intro (Or.inl rfl) ?_)
    exact ⟨rfl, by rw [if_neg (show ¬ b < a from c)]⟩
theorem k_empty (ty : kTY σ) (b : Nat) (kb : (σ.2.2.2.1 b).1 = 0) : kjY kPP (kQQ Y) d 40 0 (mjL0 1 [.ref b]) [] σ (fun r u => r = none ∧ u = (mjIu (mjIu σ.1 b 2 0) b 3 0, σ.2)) := by
  refine kjZ_y rfl rfl 7 _ _ _ _ ty ?_
  refine (And.intro (by assumption) (And.intro (Or.inl rfl) (fun ty' => (And.intro (by assumption) (And.intro (Or.inr ⟨rfl, Or.inl rfl⟩) (fun ty'' => And.intro rfl (And.intro rfl ?_)))))))
  exact ⟨rfl, rfl⟩
end KB
section KB2
variable {Y : Nat → MethodName × ByteArray} {d : Nat} {σ : kS}
/-- Arrays.copyOf to a longer row -/
def kCpB (σ : kS) (h N M : Nat) : kS := (kUp (kNew σ 21 M).1 σ.2.2.2.2.1 (va_cpy ((kNew σ 21 M).1 h) ((kNew σ 21 M).1 σ.2.2.2.2.1) 0 0 N), (kNew σ 21 M).2)
theorem k_copyB (ty : kTY σ) (h N M : Nat) (kd : σ.2.2.2.1 h = (21, N)) (x : Int32) (ex : x = nI M) (hNM : N < M) (hM : M ≤ 67108864) (hc : 1 ≤ σ.2.2.2.2.2.1) (hz : M ≤ σ.2.2.2.2.2.2) : kjY kPP (kQQ Y) (d + 2) 312 0 (mjL0 3 [.ref h, .int x]) [] σ (fun r u => r = some (.ref σ.2.2.2.2.1) ∧ u = kCpB σ h N M) := by
  have hl := ty.lr kd (by decide)
  refine kjZ_y rfl rfl 4 _ _ _ _ ty ?_
  refine (Or.inl (And.intro (kdq kd) (And.intro (fun c => ?_) (fun c => ?_))))
  rotate_left
  · refine absurd (fun e => ?_) c
    have e : x = nI (σ.2.2.2.1 h).2 := e
    rw [kd, ex] at e
    have := (nI_eq (by omega) (by omega)).mp e
    omega
  have kn : (kNew σ 21 M).2.2.2.1 h = (21, N) := by show kUp σ.2.2.2.1 σ.2.2.2.2.1 (21, M) h = _; rw [kUp_n (by omega)]; exact kd
  have km : (kNew σ 21 M).2.2.2.1 σ.2.2.2.2.1 = (21, M) := kUp_s
  refine kjZ_y rfl rfl 11 _ _ _ _ ty ?_
  refine (Exists.intro M (And.intro ex (And.intro ⟨hM, Or.inr (Or.inl rfl)⟩ (And.intro ⟨hc, hz⟩ (fun ty' => (And.intro (Nat.le_of_ble_eq_true rfl) (Or.inl (And.intro (kdq kn) (And.intro (Nat.le_of_ble_eq_true rfl) (And.intro (Nat.le_of_ble_eq_true rfl) (And.intro (Nat.le_of_ble_eq_true rfl) (kjY_mono ty' (fun q_ u1 ty1 xu h_ => ?_) (k_min ty' _ _)))))))))))))
  obtain ⟨rfl, rfl⟩ := h_
  intro _ _
  have ey : (if x < nI ((kNew σ 21 M).2.2.2.1 h).2 then x else nI ((kNew σ 21 M).2.2.2.1 h).2) = nI N := by
    rw [kn, ex, if_neg]
    exact Int32.not_lt.mpr (nI_le (by omega) (by omega))
  refine kjZ_y rfl rfl 3 _ _ _ _ ty1 ?_
  refine (Exists.intro 0 (Exists.intro 0 (Exists.intro N (And.intro ⟨rfl, rfl, ey⟩ (And.intro ⟨by rw [kn, km], by rw [kn]; exact Nat.le_of_eq (Nat.zero_add N), by rw [km]; show 0 + N ≤ M; omega⟩ (And.intro ⟨(Nat.le_of_ble_eq_true rfl), (Nat.le_of_ble_eq_true rfl)⟩ (Or.inl (And.intro (Or.inr (kdk km)) (fun ty1' => And.intro rfl (And.intro (Nat.le_of_ble_eq_true rfl) ?_))))))))))
  exact ⟨rfl, rfl⟩
end KB2
section KB3
variable {Y : Nat → MethodName × ByteArray} {d : Nat} {σ : kS}
def kCpI (σ : kS) (h N M : Nat) : kS := (kUp (kNew σ 20 M).1 σ.2.2.2.2.1 (va_cpy ((kNew σ 20 M).1 h) ((kNew σ 20 M).1 σ.2.2.2.2.1) 0 0 N), (kNew σ 20 M).2)
theorem k_copyI (ty : kTY σ) (h N M : Nat) (kd : σ.2.2.2.1 h = (20, N)) (x : Int32) (ex : x = nI M) (hNM : N < M) (hM : M ≤ 67108864) (hc : 1 ≤ σ.2.2.2.2.2.1) (hz : M ≤ σ.2.2.2.2.2.2) : kjY kPP (kQQ Y) (d + 2) 313 0 (mjL0 3 [.ref h, .int x]) [] σ (fun r u => r = some (.ref σ.2.2.2.2.1) ∧ u = kCpI σ h N M) := by
  have hl := ty.lr kd (by decide)
  refine kjZ_y rfl rfl 4 _ _ _ _ ty ?_
  refine (Or.inl (And.intro (kdq kd) (And.intro (fun c => ?_) (fun c => ?_))))
  rotate_left
  · refine absurd (fun e => ?_) c
    have e : x = nI (σ.2.2.2.1 h).2 := e
    rw [kd, ex] at e
    have := (nI_eq (by omega) (by omega)).mp e
    omega
  have kn : (kNew σ 20 M).2.2.2.1 h = (20, N) := by show kUp σ.2.2.2.1 σ.2.2.2.2.1 (20, M) h = _; rw [kUp_n (by omega)]; exact kd
  have km : (kNew σ 20 M).2.2.2.1 σ.2.2.2.2.1 = (20, M) := kUp_s
  refine kjZ_y rfl rfl 11 _ _ _ _ ty ?_
  refine (Exists.intro M (And.intro ex (And.intro ⟨hM, Or.inl rfl⟩ (And.intro ⟨hc, hz⟩ (fun ty' => (And.intro (Nat.le_of_ble_eq_true rfl) (Or.inl (And.intro (kdq kn) (And.intro (Nat.le_of_ble_eq_true rfl) (And.intro (Nat.le_of_ble_eq_true rfl) (And.intro (Nat.le_of_ble_eq_true rfl) (kjY_mono ty' (fun q_ u1 ty1 xu h_ => ?_) (k_min ty' _ _)))))))))))))
  obtain ⟨rfl, rfl⟩ := h_
  intro _ _
  have ey : (if x < nI ((kNew σ 20 M).2.2.2.1 h).2 then x else nI ((kNew σ 20 M).2.2.2.1 h).2) = nI N := by
    rw [kn, ex, if_neg]
    exact Int32.not_lt.mpr (nI_le (by omega) (by omega))
  refine kjZ_y rfl rfl 3 _ _ _ _ ty1 ?_
  refine (Exists.intro 0 (Exists.intro 0 (Exists.intro N (And.intro ⟨rfl, rfl, ey⟩ (And.intro ⟨by rw [kn, km], by rw [kn]; exact Nat.le_of_eq (Nat.zero_add N), by rw [km]; show 0 + N ≤ M; omega⟩ (And.intro ⟨(Nat.le_of_ble_eq_true rfl), (Nat.le_of_ble_eq_true rfl)⟩ (Or.inl (And.intro (Or.inl (kdk km)) (fun ty1' => And.intro rfl (And.intro (Nat.le_of_ble_eq_true rfl) ?_))))))))))
  exact ⟨rfl, rfl⟩
end KB3
