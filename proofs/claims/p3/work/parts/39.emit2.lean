section EMIT2
variable {Y : Nat → MethodName × ByteArray} {d : Nat} {σ : mjS}
theorem Spelt.size {v : Int64} {u : mjS} (h : Spelt v u) : ∃ n : Nat, n ≤ 20 ∧ u.1 f_digitsSize = nI n := by
  obtain ⟨s, N, h1, h2, h3, h4, h5, h6⟩ := h
  exact ⟨s + N + 1, by rcases h2 with h2 | h2 <;> omega, h5⟩
set_option maxRecDepth 100000 in
theorem c_emitNumber_loop (K : mjK) (v : Int64) (z : Nat) (hz : z ≤ 20) : ∀ (j k : Nat) (σ : mjS) (x : Int32), x = nI k → k + j = z → mjTY σ → oOk σ → σ.1 f_digitsSize = nI z → (∀ u, mjTY u → oO σ u → K none u) → mjY mjPP (mjQQ Y) (d + 1) 29 5 [some (.ref 0), some (.long v), none, some (.int x)] [] σ K := by
  intro j
  induction j with
  | zero =>
    intro k σ x ex hk ty ho ez hK
    refine mjZ_y rfl rfl 5 _ _ _ _ ty ?_
    refine And.intro rfl (And.intro (fun _ => And.intro rfl (And.intro rfl (hK σ ty (oO.rf ho)))) (fun c => absurd ?_ c))
    show σ.1 f_digitsSize ≤ x
    rw [ez, ex]; exact nI_le (by omega) (by omega)
  | succ j ih =>
    intro k σ x ex hk ty ho ez hK
    refine mjZ_y rfl rfl 12 _ _ _ _ ty ?_
    refine And.intro rfl (And.intro (fun c => absurd (show σ.1 f_digitsSize ≤ x from c) (by rw [ez, ex]; exact nI_ge (by omega) (by omega))) (fun _ => ?_))
    refine And.intro rfl (And.intro (Or.inl rfl) (And.intro (by rw [ex]; exact vp_in_nI (by show k < 24; omega) (by decide)) ?_))
    refine And.intro (Nat.le_of_ble_eq_true rfl) (And.intro rfl (And.intro (Nat.le_of_ble_eq_true rfl) (And.intro (Nat.le_of_ble_eq_true rfl) (mjY_mono ty (fun v u1 ty1 h1 => ?_) (c_emitT (d := d) ty ho _)))))
    obtain ⟨rfl, h1, h2⟩ := h1
    intro _
    exact ih (k + 1) u1 _ (by rw [ex]; exact nI_1 k) (by omega) ty1 h2 (by rw [h1.1 f_digitsSize (by decide)]; exact ez) (fun u tu hu => hK u tu (oO.tr (b := u1) ⟨h1.up (by decide) (by decide), h2⟩ hu))
set_option maxRecDepth 100000 in
theorem c_emitNumber (ty : mjTY σ) (ho : oOk σ) (v : Int64) : mjY mjPP (mjQQ Y) (d + 1) 29 0 (mjL0 4 [.ref 0, .long v]) [] σ (fun r u => r = none ∧ oO σ u) := by
  refine mjZ_y rfl rfl 5 _ _ _ _ ty ?_
  refine And.intro (Nat.le_of_ble_eq_true rfl) (And.intro rfl (And.intro (Nat.le_of_ble_eq_true rfl) (And.intro (Nat.le_of_ble_eq_true rfl) (mjY_mono ty (fun r u1 ty1 h1 => ?_) (c_spell (d := d) ty v)))))
  obtain ⟨rfl, h1, h2⟩ := h1
  intro _
  refine And.intro (Nat.le_of_ble_eq_true rfl) ?_
  obtain ⟨z, hz, ez⟩ := h2.size
  obtain ⟨⟨n, hn, en⟩, _⟩ := ho
  have ho1 : oOk u1 := ⟨⟨n, hn, by rw [h1.1 f_answerSize (by decide)]; exact en⟩, trivial⟩
  exact c_emitNumber_loop _ v z hz z 0 u1 _ rfl (by omega) ty1 ho1 ez (fun u tu hu => ⟨rfl, oO.tr (b := u1) ⟨h1.up (by decide) (by decide), ho1⟩ hu⟩)
set_option maxRecDepth 100000 in
theorem c_number (ty : mjTY σ) (ho : oOk σ) (v : Int64) : mjY mjPP (mjQQ Y) (d + 2) 30 0 (mjL0 3 [.ref 0, .long v]) [] σ (fun v u => v = none ∧ oO σ u) := by
  have h0 : oO σ σ := oO.rf ho
  refine mjZ_y rfl rfl 9 _ _ _ _ ty ?_
  refine And.intro (Nat.le_of_ble_eq_true rfl) (And.intro rfl (And.intro (Nat.le_of_ble_eq_true rfl) (And.intro (Nat.le_of_ble_eq_true rfl) (mjY_mono ty (fun v u1 ty1 h1 => ?_) (c_emit (d := d + 1) ty h0.2 _)))))
  obtain ⟨rfl, h1⟩ := h1
  intro _
  have h1 := h0.tr h1
  refine And.intro (Nat.le_of_ble_eq_true rfl) (And.intro rfl (And.intro (Nat.le_of_ble_eq_true rfl) (And.intro (Nat.le_of_ble_eq_true rfl) (mjY_mono ty1 (fun v u2 ty2 h2 => ?_) (c_emitNumber (d := d) ty1 h1.2 _)))))
  obtain ⟨rfl, h2⟩ := h2
  intro _
  have h2 := h1.tr h2
  refine And.intro (Nat.le_of_ble_eq_true rfl) (And.intro rfl (And.intro (Nat.le_of_ble_eq_true rfl) (And.intro (Nat.le_of_ble_eq_true rfl) (mjY_mono ty2 (fun v u3 ty3 h3 => ?_) (c_line (d := d) ty2 h2.2)))))
  obtain ⟨rfl, h3⟩ := h3
  intro _
  have h3 := h2.tr h3
  exact And.intro rfl (And.intro rfl (And.intro rfl h3))
set_option maxRecDepth 100000 in
theorem c_row (ty : mjTY σ) (ho : oOk σ) (n : Int32) : mjY mjPP (mjQQ Y) (d + 2) 34 0 (mjL0 2 [.ref 0, .int n]) [] σ (fun v u => v = none ∧ oO σ u) := by
  have h0 : oO σ σ := oO.rf ho
  refine mjZ_y rfl rfl 10 _ _ _ _ ty ?_
  refine And.intro (Nat.le_of_ble_eq_true rfl) (And.intro rfl (And.intro (Nat.le_of_ble_eq_true rfl) (And.intro (Nat.le_of_ble_eq_true rfl) (mjY_mono ty (fun v u1 ty1 h1 => ?_) (c_emit (d := d + 1) ty h0.2 _)))))
  obtain ⟨rfl, h1⟩ := h1
  intro _
  have h1 := h0.tr h1
  refine And.intro (Nat.le_of_ble_eq_true rfl) (And.intro rfl (And.intro (Nat.le_of_ble_eq_true rfl) (And.intro (Nat.le_of_ble_eq_true rfl) (mjY_mono ty1 (fun v u2 ty2 h2 => ?_) (c_emitNumber (d := d) ty1 h1.2 _)))))
  obtain ⟨rfl, h2⟩ := h2
  intro _
  have h2 := h1.tr h2
  refine And.intro (Nat.le_of_ble_eq_true rfl) (And.intro rfl (And.intro (Nat.le_of_ble_eq_true rfl) (And.intro (Nat.le_of_ble_eq_true rfl) (mjY_mono ty2 (fun v u3 ty3 h3 => ?_) (c_line (d := d) ty2 h2.2)))))
  obtain ⟨rfl, h3⟩ := h3
  intro _
  have h3 := h2.tr h3
  exact And.intro rfl (And.intro rfl (And.intro rfl h3))
set_option maxRecDepth 100000 in
theorem c_word_loop (K : mjK) (h a n : Nat) (hh : mjKd h = 1) (ha : a + n ≤ mjLn h) (hl : mjLn h < 2 ^ 31) : ∀ (j k : Nat) (σ : mjS) (x : Int32), x = nI k → k + j = n → mjTY σ → oOk σ → (∀ u, mjTY u → oO σ u → K none u) → mjY mjPP (mjQQ Y) (d + 2) 31 11 [some (.ref 0), some (.ref h), some (.int (nI a)), some (.int (nI n)), some (.int x)] [] σ K := by
  intro j
  induction j with
  | zero =>
    intro k σ x ex hk ty ho hK
    refine mjZ_y rfl rfl 6 _ _ _ _ ty ?_
    refine And.intro (fun _ => ?_) (fun c => absurd (show nI n ≤ x by rw [ex]; exact nI_le (by omega) (by omega)) c)
    refine And.intro (Nat.le_of_ble_eq_true rfl) (And.intro rfl (And.intro (Nat.le_of_ble_eq_true rfl) (And.intro (Nat.le_of_ble_eq_true rfl) (mjY_mono ty (fun v u1 ty1 h1 => ?_) (c_line (d := d) ty ho)))))
    obtain ⟨rfl, h1⟩ := h1
    intro _
    exact And.intro rfl (And.intro rfl (hK u1 ty1 h1))
  | succ j ih =>
    intro k σ x ex hk ty ho hK
    refine mjZ_y rfl rfl 14 _ _ _ _ ty ?_
    refine And.intro (fun c => absurd (show nI n ≤ x from c) (by rw [ex]; exact nI_ge (by omega) (by omega))) (fun _ => ?_)
    refine And.intro (Or.inl hh) (And.intro (by rw [ex, nI_add]; exact vp_in_nI (by omega) hl) ?_)
    refine And.intro (Nat.le_of_ble_eq_true rfl) (And.intro rfl (And.intro (Nat.le_of_ble_eq_true rfl) (And.intro (Nat.le_of_ble_eq_true rfl) (mjY_mono ty (fun v u1 ty1 h1 => ?_) (c_emit (d := d + 1) ty ho _)))))
    obtain ⟨rfl, h1⟩ := h1
    intro _
    exact ih (k + 1) u1 _ (by rw [ex]; exact nI_1 k) (by omega) ty1 h1.2 (fun u tu hu => hK u tu (h1.tr hu))
set_option maxRecDepth 100000 in
theorem c_word (ty : mjTY σ) (ho : oOk σ) (h a n : Nat) (hh : mjKd h = 1) (ha : a + n ≤ mjLn h) (hl : mjLn h < 2 ^ 31) : mjY mjPP (mjQQ Y) (d + 2) 31 0 (mjL0 5 [.ref 0, .ref h, .int (nI a), .int (nI n)]) [] σ (fun v u => v = none ∧ oO σ u) := by
  have h0 : oO σ σ := oO.rf ho
  refine mjZ_y rfl rfl 11 _ _ _ _ ty ?_
  refine And.intro (Nat.le_of_ble_eq_true rfl) (And.intro rfl (And.intro (Nat.le_of_ble_eq_true rfl) (And.intro (Nat.le_of_ble_eq_true rfl) (mjY_mono ty (fun v u1 ty1 h1 => ?_) (c_emit (d := d + 1) ty h0.2 _)))))
  obtain ⟨rfl, h1⟩ := h1
  intro _
  have h1 := h0.tr h1
  refine And.intro (Nat.le_of_ble_eq_true rfl) (And.intro rfl (And.intro (Nat.le_of_ble_eq_true rfl) (And.intro (Nat.le_of_ble_eq_true rfl) (mjY_mono ty1 (fun v u2 ty2 h2 => ?_) (c_emitNumber (d := d) ty1 h1.2 _)))))
  obtain ⟨rfl, h2⟩ := h2
  intro _
  have h2 := h1.tr h2
  refine And.intro (Nat.le_of_ble_eq_true rfl) (And.intro rfl (And.intro (Nat.le_of_ble_eq_true rfl) (And.intro (Nat.le_of_ble_eq_true rfl) (mjY_mono ty2 (fun v u3 ty3 h3 => ?_) (c_line (d := d) ty2 h2.2)))))
  obtain ⟨rfl, h3⟩ := h3
  intro _
  have h3 := h2.tr h3
  refine And.intro (Nat.le_of_ble_eq_true rfl) ?_
  exact c_word_loop _ h a n hh ha hl n 0 u3 _ rfl (by omega) ty3 h3.2 (fun u tu hu => ⟨rfl, h3.tr hu⟩)
set_option maxRecDepth 100000 in
theorem c_syntax (ty : mjTY σ) (ho : oOk σ) : mjY mjPP (mjQQ Y) (d + 3) 38 0 (mjL0 1 [.ref 0]) [] σ (fun v u => v = some (.int 0) ∧ oO σ u) := by
  have h0 : oO σ σ := oO.rf ho
  refine mjZ_y rfl rfl 5 _ _ _ _ ty ?_
  refine And.intro (Nat.le_of_ble_eq_true rfl) (And.intro rfl (And.intro (Nat.le_of_ble_eq_true rfl) (And.intro (Nat.le_of_ble_eq_true rfl) (mjY_mono ty (fun v u1 ty1 h1 => ?_) (c_error (d := d) ty h0.2 _ _)))))
  obtain ⟨rfl, h1⟩ := h1
  intro _
  have h1 := h0.tr h1
  exact And.intro rfl (And.intro (Or.inr ⟨rfl, Or.inl rfl⟩) (And.intro rfl h1))
set_option maxRecDepth 100000 in
theorem c_noInteger (ty : mjTY σ) (ho : oOk σ) : mjY mjPP (mjQQ Y) (d + 3) 39 0 (mjL0 1 [.ref 0]) [] σ (fun v u => v = some (.int 0) ∧ oO σ u) := by
  have h0 : oO σ σ := oO.rf ho
  refine mjZ_y rfl rfl 5 _ _ _ _ ty ?_
  refine And.intro (Nat.le_of_ble_eq_true rfl) (And.intro rfl (And.intro (Nat.le_of_ble_eq_true rfl) (And.intro (Nat.le_of_ble_eq_true rfl) (mjY_mono ty (fun v u1 ty1 h1 => ?_) (c_error (d := d) ty h0.2 _ _)))))
  obtain ⟨rfl, h1⟩ := h1
  intro _
  have h1 := h0.tr h1
  exact And.intro rfl (And.intro (Or.inr ⟨rfl, Or.inl rfl⟩) (And.intro rfl h1))
set_option maxRecDepth 100000 in
theorem c_outOfRange (ty : mjTY σ) (ho : oOk σ) : mjY mjPP (mjQQ Y) (d + 3) 40 0 (mjL0 1 [.ref 0]) [] σ (fun v u => v = some (.int 0) ∧ oO σ u) := by
  have h0 : oO σ σ := oO.rf ho
  refine mjZ_y rfl rfl 5 _ _ _ _ ty ?_
  refine And.intro (Nat.le_of_ble_eq_true rfl) (And.intro rfl (And.intro (Nat.le_of_ble_eq_true rfl) (And.intro (Nat.le_of_ble_eq_true rfl) (mjY_mono ty (fun v u1 ty1 h1 => ?_) (c_error (d := d) ty h0.2 _ _)))))
  obtain ⟨rfl, h1⟩ := h1
  intro _
  have h1 := h0.tr h1
  exact And.intro rfl (And.intro (Or.inr ⟨rfl, Or.inl rfl⟩) (And.intro rfl h1))
set_option maxRecDepth 100000 in
theorem c_badTime (ty : mjTY σ) (ho : oOk σ) : mjY mjPP (mjQQ Y) (d + 3) 60 0 (mjL0 1 [.ref 0]) [] σ (fun v u => v = some (.int 0) ∧ oO σ u) := by
  have h0 : oO σ σ := oO.rf ho
  refine mjZ_y rfl rfl 5 _ _ _ _ ty ?_
  refine And.intro (Nat.le_of_ble_eq_true rfl) (And.intro rfl (And.intro (Nat.le_of_ble_eq_true rfl) (And.intro (Nat.le_of_ble_eq_true rfl) (mjY_mono ty (fun v u1 ty1 h1 => ?_) (c_error (d := d) ty h0.2 _ _)))))
  obtain ⟨rfl, h1⟩ := h1
  intro _
  have h1 := h0.tr h1
  exact And.intro rfl (And.intro (Or.inr ⟨rfl, Or.inl rfl⟩) (And.intro rfl h1))
set_option maxRecDepth 100000 in
theorem c_tooGreat (ty : mjTY σ) (ho : oOk σ) : mjY mjPP (mjQQ Y) (d + 3) 85 0 (mjL0 1 [.ref 0]) [] σ (fun v u => v = none ∧ oO σ u) := by
  refine mjZ_y rfl rfl 6 _ _ _ _ ty ?_
  refine And.intro (Nat.le_of_ble_eq_true rfl) (And.intro rfl (And.intro (Nat.le_of_ble_eq_true rfl) (And.intro (Nat.le_of_ble_eq_true rfl) (mjY_mono ty (fun v u1 ty1 h1 => ?_) (c_error (d := d) ty ho _ _)))))
  obtain ⟨rfl, h1⟩ := h1
  intro _
  exact And.intro rfl (And.intro rfl (And.intro rfl h1))
set_option maxRecDepth 100000 in
theorem c_numberWord_end (K : mjK) (v : Int64) (x : Int32) (σ : mjS) (ty : mjTY σ) (ho : oOk σ) (hK : ∀ u, mjTY u → oO σ u → K none u) : mjY mjPP (mjQQ Y) (d + 2) 32 19 [some (.ref 0), some (.long v), none, some (.int x)] [] σ K := by
  have h0 : oO σ σ := oO.rf ho
  refine mjZ_y rfl rfl 15 _ _ _ _ ty ?_
  refine And.intro (by decide) ?_
  refine And.intro (Nat.le_of_ble_eq_true rfl) (And.intro rfl (And.intro (Nat.le_of_ble_eq_true rfl) (And.intro (Nat.le_of_ble_eq_true rfl) (mjY_mono ty (fun v u1 ty1 h1 => ?_) (c_emit (d := d + 1) ty h0.2 _)))))
  obtain ⟨rfl, h1⟩ := h1
  intro _
  have h1 := h0.tr h1
  refine And.intro (Nat.le_of_ble_eq_true rfl) (And.intro rfl (And.intro (Nat.le_of_ble_eq_true rfl) (And.intro (Nat.le_of_ble_eq_true rfl) (mjY_mono ty1 (fun v u2 ty2 h2 => ?_) (c_line (d := d) ty1 h1.2)))))
  obtain ⟨rfl, h2⟩ := h2
  intro _
  have h2 := h1.tr h2
  refine And.intro (Nat.le_of_ble_eq_true rfl) (And.intro rfl (And.intro (Nat.le_of_ble_eq_true rfl) (And.intro (Nat.le_of_ble_eq_true rfl) (mjY_mono ty2 (fun v u3 ty3 h3 => ?_) (c_emitNumber (d := d) ty2 h2.2 _)))))
  obtain ⟨rfl, h3⟩ := h3
  intro _
  have h3 := h2.tr h3
  refine And.intro (Nat.le_of_ble_eq_true rfl) (And.intro rfl (And.intro (Nat.le_of_ble_eq_true rfl) (And.intro (Nat.le_of_ble_eq_true rfl) (mjY_mono ty3 (fun v u4 ty4 h4 => ?_) (c_line (d := d) ty3 h3.2)))))
  obtain ⟨rfl, h4⟩ := h4
  intro _
  have h4 := h3.tr h4
  exact And.intro rfl (And.intro rfl (hK _ ty4 h4))
set_option maxRecDepth 100000 in
theorem c_numberWord (ty : mjTY σ) (ho : oOk σ) (v : Int64) : mjY mjPP (mjQQ Y) (d + 2) 32 0 (mjL0 4 [.ref 0, .long v]) [] σ (fun r u => r = none ∧ oO σ u) := by
  refine mjZ_y rfl rfl 12 _ _ _ _ ty ?_
  refine And.intro (Nat.le_of_ble_eq_true rfl) (And.intro rfl (And.intro (Nat.le_of_ble_eq_true rfl) (And.intro (Nat.le_of_ble_eq_true rfl) (mjY_mono ty (fun r u1 ty1 h1 => ?_) (c_spell (d := d + 1) ty v)))))
  obtain ⟨rfl, h1, h2⟩ := h1
  intro _
  obtain ⟨z, hz, ez⟩ := h2.size
  obtain ⟨⟨n, hn, en⟩, _⟩ := ho
  have ho1 : oOk u1 := ⟨⟨n, hn, by rw [h1.1 f_answerSize (by decide)]; exact en⟩, trivial⟩
  have h1 : oO σ u1 := ⟨h1.up (by decide) (by decide), ho1⟩
  refine And.intro rfl (And.intro (Nat.le_of_ble_eq_true rfl) ?_)
  refine And.intro (Nat.le_of_ble_eq_true rfl) (And.intro rfl (And.intro (Nat.le_of_ble_eq_true rfl) (And.intro (Nat.le_of_ble_eq_true rfl) (mjY_mono ty1 (fun v u2 ty2 h2 => ?_) (c_emit (d := d + 1) ty1 h1.2 _)))))
  obtain ⟨rfl, h2⟩ := h2
  intro _
  have h2 := h1.tr h2
  refine And.intro (fun _ => ?_) (fun _ => ?_)
  · refine mjZ_re rfl rfl 0 ty2 ?_
    exact c_numberWord_end _ v _ u2 ty2 h2.2 (fun u tu hu => ⟨rfl, h2.tr hu⟩)
  · refine mjZ_re rfl rfl 7 ty2 ?_
    refine And.intro (by decide) ?_
    refine And.intro (Nat.le_of_ble_eq_true rfl) (And.intro rfl (And.intro (Nat.le_of_ble_eq_true rfl) (And.intro (Nat.le_of_ble_eq_true rfl) (mjY_mono ty2 (fun v u3 ty3 h3 => ?_) (c_emit (d := d + 1) ty2 h2.2 _)))))
    obtain ⟨rfl, h3⟩ := h3
    intro _
    exact c_numberWord_end _ v _ u3 ty3 h3.2 (fun u tu hu => ⟨rfl, (h2.tr h3).tr hu⟩)
end EMIT2
