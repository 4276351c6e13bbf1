/-! The answer: what is told goes to the row 'answer', never past its end. -/
section EMIT
variable {Y : Nat → MethodName × ByteArray} {d : Nat} {σ : mjS}
abbrev oF : List Nat := [f_answerSize, f_tooLong, f_digitsSize]
abbrev oH : List Nat := [r_answer, r_digits]
def oOk (σ : mjS) : Prop := (∃ n : Nat, n ≤ 65537 ∧ σ.1 f_answerSize = nI n) ∧ True
def oO (σ u : mjS) : Prop := Fr oF oH σ u ∧ oOk u
theorem oO.rf (h : oOk σ) : oO σ σ := ⟨Fr.rf, h⟩
theorem oO.tr {a b c : mjS} (h : oO a b) (g : oO b c) : oO a c := ⟨h.1.tr g.1, g.2⟩
theorem b8 (b : Int32) : b.toInt8.toInt32.toInt8.toInt32 = b.toInt8.toInt32 := by rw [← vp_nar_byte]; exact pk_vb b
set_option maxRecDepth 100000 in
theorem c_emitT (ty : mjTY σ) (ho : oOk σ) (b : Int32) : mjY mjPP (mjQQ Y) d 25 0 (mjL0 2 [.ref 0, .int b]) [] σ (fun v u => v = none ∧ Fr [f_answerSize, f_tooLong] [r_answer] σ u ∧ oOk u) := by
  obtain ⟨⟨n, hn, en⟩, hd⟩ := ho
  refine mjZ_y rfl rfl 22 _ _ _ _ ty ?_
  refine And.intro rfl (And.intro (fun c => ?_) (fun c => ?_))
  · have hn2 : n ≤ 65536 := by
      have c : σ.1 f_answerSize ≤ 65536 := c
      rw [en] at c
      exact (nI_leI (b := 65536) (by omega) (by omega)).mp c
    refine And.intro rfl (And.intro rfl (And.intro (Or.inl ⟨rfl, b8 b⟩) (And.intro ?_ (fun ty2 => ?_))))
    · show vp_in (σ.1 f_answerSize) 70000
      rw [en]; exact vp_in_nI (by omega) (by omega)
    · refine And.intro rfl (And.intro rfl (And.intro (Or.inl rfl) (fun ty3 => ?_)))
      refine And.intro rfl (And.intro rfl (And.intro rfl ⟨(Fr.a (by decide)).tr (Fr.i (by decide)), ⟨n + 1, by omega, ?_⟩, ?_⟩))
      · show upd σ.1 f_answerSize (σ.1 f_answerSize + 1) f_answerSize = _
        rw [pk_us, en]; exact nI_1 n
      · trivial
  · refine And.intro rfl (And.intro (Or.inr ⟨rfl, Or.inr rfl⟩) (fun ty2 => ?_))
    refine And.intro rfl (And.intro rfl (And.intro rfl ⟨Fr.i (by decide), ⟨n, hn, ?_⟩, ?_⟩))
    · show upd σ.1 f_tooLong 1 f_answerSize = _
      rw [pk_un (by decide)]; exact en
    · trivial
theorem c_emit (ty : mjTY σ) (ho : oOk σ) (b : Int32) : mjY mjPP (mjQQ Y) d 25 0 (mjL0 2 [.ref 0, .int b]) [] σ (fun v u => v = none ∧ oO σ u) :=
  mjY_mono ty (fun _ _ _ h => ⟨h.1, h.2.1.up (by decide) (by decide), h.2.2⟩) (c_emitT ty ho b)
set_option maxRecDepth 100000 in
theorem c_line (ty : mjTY σ) (ho : oOk σ) : mjY mjPP (mjQQ Y) (d + 1) 27 0 (mjL0 1 [.ref 0]) [] σ (fun v u => v = none ∧ oO σ u) := by
  have h0 : oO σ σ := oO.rf ho
  refine mjZ_y rfl rfl 7 _ _ _ _ ty ?_
  refine And.intro (Nat.le_of_ble_eq_true rfl) (And.intro rfl (And.intro (Nat.le_of_ble_eq_true rfl) (And.intro (Nat.le_of_ble_eq_true rfl) (mjY_mono ty (fun v u1 ty1 h1 => ?_) (c_emit (d := d) ty h0.2 _)))))
  obtain ⟨rfl, h1⟩ := h1
  intro _
  have h1 := h0.tr h1
  refine And.intro (Nat.le_of_ble_eq_true rfl) (And.intro rfl (And.intro (Nat.le_of_ble_eq_true rfl) (And.intro (Nat.le_of_ble_eq_true rfl) (mjY_mono ty1 (fun v u2 ty2 h2 => ?_) (c_emit (d := d) ty1 h1.2 _)))))
  obtain ⟨rfl, h2⟩ := h2
  intro _
  have h2 := h1.tr h2
  exact And.intro rfl (And.intro rfl (And.intro rfl h2))
set_option maxRecDepth 100000 in
theorem c_letters_loop (K : mjK) (w : Int64) : ∀ (j : Nat) (σ : mjS) (x : Int32) (l4 : Option Value), x = nI (8 * j) - 8 → mjTY σ → oOk σ → j ≤ 8 → (∀ u, mjTY u → oO σ u → K none u) → mjY mjPP (mjQQ Y) (d + 1) 26 2 [some (.ref 0), some (.long w), none, some (.int x), l4] [] σ K := by
  intro j
  induction j with
  | zero =>
    intro σ x l4 ex ty ho hj hK
    refine mjZ_y rfl rfl 3 _ _ _ _ ty ?_
    exact And.intro (fun _ => And.intro rfl (And.intro rfl (hK σ ty (oO.rf ho)))) (fun c => absurd (show x < 0 by rw [ex]; decide) c)
  | succ j ih =>
    intro σ x l4 ex ty ho hj hK
    have e8 : x = nI (8 * j) := by
      rw [ex, show (8 : Int32) = nI 8 from rfl, pk_sub (by omega)]; exact congrArg nI (by omega)
    have e9 : x + Int32.ofInt (-8) = nI (8 * j) - 8 := by
      rw [e8, show Int32.ofInt (-8) = -8 by decide, Int32.sub_eq_add_neg]
    refine mjZ_y rfl rfl 16 _ _ _ _ ty ?_
    refine And.intro (fun c => absurd c (by rw [e8]; exact nI_pos (by omega))) (fun _ => And.intro (Nat.le_of_ble_eq_true rfl) (And.intro (fun _ => ?_) (fun _ => ?_)))
    · refine mjZ_re rfl rfl 2 ty ?_
      exact ih σ _ _ e9 ty ho (by omega) hK
    · refine And.intro (Nat.le_of_ble_eq_true rfl) (And.intro rfl (And.intro (Nat.le_of_ble_eq_true rfl) (And.intro (Nat.le_of_ble_eq_true rfl) (mjY_mono ty (fun v u1 ty1 h1 => ?_) (c_emit (d := d) ty ho _)))))
      obtain ⟨rfl, h1⟩ := h1
      intro _
      refine mjZ_re rfl rfl 2 ty1 ?_
      exact ih u1 _ _ e9 ty1 h1.2 (by omega) (fun u tu hu => hK u tu (h1.tr hu))
set_option maxRecDepth 100000 in
theorem c_letters (ty : mjTY σ) (ho : oOk σ) (w : Int64) : mjY mjPP (mjQQ Y) (d + 1) 26 0 (mjL0 5 [.ref 0, .long w]) [] σ (fun v u => v = none ∧ oO σ u) := by
  refine mjZ_y rfl rfl 2 _ _ _ _ ty ?_
  refine And.intro (Nat.le_of_ble_eq_true rfl) ?_
  exact c_letters_loop _ w 8 σ _ none rfl ty ho (Nat.le_refl _) (fun u _ hu => ⟨rfl, hu⟩)
set_option maxRecDepth 100000 in
theorem c_nil (ty : mjTY σ) (ho : oOk σ) : mjY mjPP (mjQQ Y) (d + 2) 33 0 (mjL0 1 [.ref 0]) [] σ (fun v u => v = none ∧ oO σ u) := by
  have h0 : oO σ σ := oO.rf ho
  refine mjZ_y rfl rfl 6 _ _ _ _ ty ?_
  refine And.intro (Nat.le_of_ble_eq_true rfl) (And.intro rfl (And.intro (Nat.le_of_ble_eq_true rfl) (And.intro (Nat.le_of_ble_eq_true rfl) (mjY_mono ty (fun v u1 ty1 h1 => ?_) (c_letters (d := d) ty h0.2 _)))))
  obtain ⟨rfl, h1⟩ := h1
  intro _
  have h1 := h0.tr h1
  refine And.intro (Nat.le_of_ble_eq_true rfl) (And.intro rfl (And.intro (Nat.le_of_ble_eq_true rfl) (And.intro (Nat.le_of_ble_eq_true rfl) (mjY_mono ty1 (fun v u2 ty2 h2 => ?_) (c_line (d := d) ty1 h1.2)))))
  obtain ⟨rfl, h2⟩ := h2
  intro _
  have h2 := h1.tr h2
  exact And.intro rfl (And.intro rfl (And.intro rfl h2))
set_option maxRecDepth 100000 in
theorem c_plain (ty : mjTY σ) (ho : oOk σ) (w : Int64) : mjY mjPP (mjQQ Y) (d + 2) 35 0 (mjL0 3 [.ref 0, .long w]) [] σ (fun v u => v = none ∧ oO σ u) := by
  have h0 : oO σ σ := oO.rf ho
  refine mjZ_y rfl rfl 9 _ _ _ _ ty ?_
  refine And.intro (Nat.le_of_ble_eq_true rfl) (And.intro rfl (And.intro (Nat.le_of_ble_eq_true rfl) (And.intro (Nat.le_of_ble_eq_true rfl) (mjY_mono ty (fun v u1 ty1 h1 => ?_) (c_emit (d := d + 1) ty h0.2 _)))))
  obtain ⟨rfl, h1⟩ := h1
  intro _
  have h1 := h0.tr h1
  refine And.intro (Nat.le_of_ble_eq_true rfl) (And.intro rfl (And.intro (Nat.le_of_ble_eq_true rfl) (And.intro (Nat.le_of_ble_eq_true rfl) (mjY_mono ty1 (fun v u2 ty2 h2 => ?_) (c_letters (d := d) ty1 h1.2 _)))))
  obtain ⟨rfl, h2⟩ := h2
  intro _
  have h2 := h1.tr h2
  refine And.intro (Nat.le_of_ble_eq_true rfl) (And.intro rfl (And.intro (Nat.le_of_ble_eq_true rfl) (And.intro (Nat.le_of_ble_eq_true rfl) (mjY_mono ty2 (fun v u3 ty3 h3 => ?_) (c_line (d := d) ty2 h2.2)))))
  obtain ⟨rfl, h3⟩ := h3
  intro _
  have h3 := h2.tr h3
  exact And.intro rfl (And.intro rfl (And.intro rfl h3))
set_option maxRecDepth 100000 in
theorem c_ok (ty : mjTY σ) (ho : oOk σ) : mjY mjPP (mjQQ Y) (d + 3) 36 0 (mjL0 1 [.ref 0]) [] σ (fun v u => v = none ∧ oO σ u) := by
  have h0 : oO σ σ := oO.rf ho
  refine mjZ_y rfl rfl 4 _ _ _ _ ty ?_
  refine And.intro (Nat.le_of_ble_eq_true rfl) (And.intro rfl (And.intro (Nat.le_of_ble_eq_true rfl) (And.intro (Nat.le_of_ble_eq_true rfl) (mjY_mono ty (fun v u1 ty1 h1 => ?_) (c_plain (d := d) ty h0.2 _)))))
  obtain ⟨rfl, h1⟩ := h1
  intro _
  have h1 := h0.tr h1
  exact And.intro rfl (And.intro rfl (And.intro rfl h1))
set_option maxRecDepth 100000 in
theorem c_error (ty : mjTY σ) (ho : oOk σ) (a b : Int64) : mjY mjPP (mjQQ Y) (d + 2) 37 0 (mjL0 5 [.ref 0, .long a, .long b]) [] σ (fun v u => v = some (.int 0) ∧ oO σ u) := by
  have h0 : oO σ σ := oO.rf ho
  refine mjZ_y rfl rfl 13 _ _ _ _ ty ?_
  refine And.intro (Nat.le_of_ble_eq_true rfl) (And.intro rfl (And.intro (Nat.le_of_ble_eq_true rfl) (And.intro (Nat.le_of_ble_eq_true rfl) (mjY_mono ty (fun v u1 ty1 h1 => ?_) (c_letters (d := d) ty h0.2 _)))))
  obtain ⟨rfl, h1⟩ := h1
  intro _
  have h1 := h0.tr h1
  refine And.intro (Nat.le_of_ble_eq_true rfl) (And.intro rfl (And.intro (Nat.le_of_ble_eq_true rfl) (And.intro (Nat.le_of_ble_eq_true rfl) (mjY_mono ty1 (fun v u2 ty2 h2 => ?_) (c_letters (d := d) ty1 h1.2 _)))))
  obtain ⟨rfl, h2⟩ := h2
  intro _
  have h2 := h1.tr h2
  refine And.intro (Nat.le_of_ble_eq_true rfl) (And.intro rfl (And.intro (Nat.le_of_ble_eq_true rfl) (And.intro (Nat.le_of_ble_eq_true rfl) (mjY_mono ty2 (fun v u3 ty3 h3 => ?_) (c_letters (d := d) ty2 h2.2 _)))))
  obtain ⟨rfl, h3⟩ := h3
  intro _
  have h3 := h2.tr h3
  refine And.intro (Nat.le_of_ble_eq_true rfl) (And.intro rfl (And.intro (Nat.le_of_ble_eq_true rfl) (And.intro (Nat.le_of_ble_eq_true rfl) (mjY_mono ty3 (fun v u4 ty4 h4 => ?_) (c_line (d := d) ty3 h3.2)))))
  obtain ⟨rfl, h4⟩ := h4
  intro _
  have h4 := h3.tr h4
  exact And.intro rfl (And.intro (Or.inr ⟨rfl, Or.inl rfl⟩) (And.intro rfl h4))
end EMIT
