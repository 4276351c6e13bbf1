/-! The reference's small calls. -/
section FACE
variable {Y : Nat → MethodName × ByteArray} {d : Nat} {σ : mjS}
abbrev tF : List Nat := [f_thrownCode, f_tapeSize]
set_option maxRecDepth 100000 in
theorem c_feed_loop (K : mjK) (a b c e f : Int32) : ∀ (j k t : Nat) (σ : mjS) (x : Int32) (l7 : Option Value), x = nI k → k + j = 20 → mjTY σ → σ.1 f_tapeSize = nI t → t + j ≤ 65540 → (∀ u, mjTY u → Fr tF [r_tape] σ u → u.1 f_tapeSize = nI (t + j) → K (some (.int 1)) u) →
    mjY mjPP (mjQQ Y) d 171 13 [some (.ref 0), some (.int a), some (.int b), some (.int c), some (.int e), some (.int f), some (.int x), l7] [] σ K := by
  intro j
  induction j with
  | zero =>
    intro k t σ x l7 ex hk ty ez ht hK
    refine mjZ_y rfl rfl 5 _ _ _ _ ty ?_
    refine And.intro (fun _ => And.intro rfl (And.intro (Or.inr ⟨rfl, Or.inr rfl⟩) (hK σ ty Fr.rf ez))) (fun q => absurd (show (Int8.ofInt 20).toInt32 ≤ x by rw [ex, show k = 20 by omega]; decide) q)
  | succ j ih =>
    intro k t σ x l7 ex hk ty ez ht hK
    have m38 : ∀ w : Int32, mjY mjPP (mjQQ Y) d 171 38 [some (.ref 0), some (.int a), some (.int b), some (.int c), some (.int e), some (.int f), some (.int x), some (.int w)] [] σ K := by
      intro w
      refine mjZ_y rfl rfl 23 _ _ _ _ ty ?_
      refine And.intro rfl (And.intro rfl (And.intro (Or.inl ⟨rfl, b8 _⟩) (And.intro ?_ (fun ty1 => And.intro rfl (And.intro rfl (And.intro (Or.inl rfl) (fun ty2 => ?_)))))))
      · show vp_in (σ.1 f_tapeSize) 65540
        rw [ez]; exact vp_in_nI (by omega) (by omega)
      · refine ih (k + 1) (t + 1) _ _ _ (by rw [ex]; exact nI_1 k) (by omega) ty2 ?_ (by omega) (fun u tu fu eu => hK u tu (((Fr.a (by decide)).tr (Fr.i (by decide))).tr fu) (by rw [eu]; exact congrArg nI (by omega)))
        show upd σ.1 f_tapeSize (σ.1 f_tapeSize + 1) f_tapeSize = _
        rw [pk_us, ez]; exact nI_1 t
    have m33 : ∀ w : Int32, mjY mjPP (mjQQ Y) d 171 33 [some (.ref 0), some (.int a), some (.int b), some (.int c), some (.int e), some (.int f), some (.int x), some (.int w)] [] σ K := by
      intro w
      refine mjZ_y rfl rfl 3 _ _ _ _ ty ?_
      refine And.intro (fun _ => m38 w) (fun _ => ?_)
      refine mjZ_re rfl rfl 2 ty ?_
      exact And.intro (Nat.le_of_ble_eq_true rfl) (m38 _)
    have m28 : ∀ w : Int32, mjY mjPP (mjQQ Y) d 171 28 [some (.ref 0), some (.int a), some (.int b), some (.int c), some (.int e), some (.int f), some (.int x), some (.int w)] [] σ K := by
      intro w
      refine mjZ_y rfl rfl 3 _ _ _ _ ty ?_
      refine And.intro (fun _ => m33 w) (fun _ => ?_)
      refine mjZ_re rfl rfl 2 ty ?_
      exact And.intro (Nat.le_of_ble_eq_true rfl) (m33 _)
    have m23 : ∀ w : Int32, mjY mjPP (mjQQ Y) d 171 23 [some (.ref 0), some (.int a), some (.int b), some (.int c), some (.int e), some (.int f), some (.int x), some (.int w)] [] σ K := by
      intro w
      refine mjZ_y rfl rfl 3 _ _ _ _ ty ?_
      refine And.intro (fun _ => m28 w) (fun _ => ?_)
      refine mjZ_re rfl rfl 2 ty ?_
      exact And.intro (Nat.le_of_ble_eq_true rfl) (m28 _)
    refine mjZ_y rfl rfl 8 _ _ _ _ ty ?_
    refine And.intro (fun q => absurd (show (Int8.ofInt 20).toInt32 ≤ x from q) (by rw [ex]; exact nI_ge (a := k) (b := 20) (by omega) (by decide))) (fun _ => And.intro (Nat.le_of_ble_eq_true rfl) (And.intro (fun _ => m23 _) (fun _ => ?_)))
    refine mjZ_re rfl rfl 2 ty ?_
    exact And.intro (Nat.le_of_ble_eq_true rfl) (m23 _)
set_option maxRecDepth 100000 in
theorem c_feed (ty : mjTY σ) (t : Nat) (ht : t ≤ 65540) (ez : σ.1 f_tapeSize = nI t) (a b c e f : Int32) : mjY mjPP (mjQQ Y) d 171 0 (mjL0 8 [.ref 0, .int a, .int b, .int c, .int e, .int f]) [] σ (fun r u => Fr tF [r_tape] σ u ∧ ((t + 20 ≤ 65540 ∧ r = some (.int 1) ∧ u.1 f_tapeSize = nI (t + 20)) ∨ (¬ t + 20 ≤ 65540 ∧ r = some (.int 0) ∧ u.1 f_tapeSize = nI t))) := by
  refine mjZ_y rfl rfl 9 _ _ _ _ ty ?_
  refine And.intro rfl (And.intro (Or.inl rfl) (fun ty1 => And.intro rfl ?_))
  have ez1 : upd σ.1 f_thrownCode (Int32.ofInt 0) f_tapeSize = nI t := by rw [pk_un (by decide)]; exact ez
  have ea : upd σ.1 f_thrownCode (Int32.ofInt 0) f_tapeSize + (Int8.ofInt 20).toInt32 = nI (t + 20) := by rw [ez1]; exact nI_add t 20
  refine And.intro (fun q => ?_) (fun q => ?_)
  · have q : upd σ.1 f_thrownCode (Int32.ofInt 0) f_tapeSize + (Int8.ofInt 20).toInt32 ≤ nI 65540 := q
    rw [ea] at q
    have q2 : t + 20 ≤ 65540 := (nI_leI (by omega) (by decide)).mp q
    refine mjZ_re rfl rfl 2 ty1 ?_
    refine And.intro (Nat.le_of_ble_eq_true rfl) ?_
    exact c_feed_loop _ a b c e f 20 0 t _ _ _ rfl rfl ty1 ez1 q2 (fun u tu fu eu => ⟨(Fr.i (by decide)).tr fu, Or.inl ⟨q2, rfl, eu⟩⟩)
  · have q2 : ¬ t + 20 ≤ 65540 := by
      intro g
      refine q ?_
      show upd σ.1 f_thrownCode (Int32.ofInt 0) f_tapeSize + (Int8.ofInt 20).toInt32 ≤ nI 65540
      rw [ea]; exact nI_le g (by decide)
    refine mjZ_re rfl rfl 2 ty1 ?_
    exact And.intro rfl (And.intro (Or.inr ⟨rfl, Or.inl rfl⟩) (And.intro (Fr.i (by decide)) (Or.inr ⟨q2, rfl, ez1⟩)))
set_option maxRecDepth 100000 in
theorem c_end (ty : mjTY σ) (t : Nat) (ht : t ≤ 65540) (ez : σ.1 f_tapeSize = nI t) (n : Int32) : mjY mjPP (mjQQ Y) d 172 0 (mjL0 2 [.ref 0, .int n]) [] σ (fun r u => Fr tF [] σ u ∧ ((∃ k : Nat, k ≤ t ∧ n = nI k ∧ r = some (.int 1) ∧ u.1 f_tapeSize = nI k) ∨ ((∀ k : Nat, k ≤ t → n ≠ nI k) ∧ r = some (.int 0) ∧ u.1 f_tapeSize = nI t))) := by
  have ez1 : upd σ.1 f_thrownCode (Int32.ofInt 0) f_tapeSize = nI t := by rw [pk_un (by decide)]; exact ez
  refine mjZ_y rfl rfl 5 _ _ _ _ ty ?_
  refine And.intro rfl (And.intro (Or.inl rfl) (fun ty1 => And.intro (fun q => ?_) (fun q => ?_)))
  · have q : n < 0 := q
    refine mjZ_re rfl rfl 2 ty1 ?_
    exact And.intro rfl (And.intro (Or.inr ⟨rfl, Or.inl rfl⟩) (And.intro (Fr.i (by decide)) (Or.inr ⟨fun k hk e => absurd q (by rw [e]; exact nI_pos (by omega)), rfl, ez1⟩)))
  · obtain ⟨k, hk, ek⟩ := nI_of (x := n) q
    refine mjZ_re rfl rfl 4 ty1 ?_
    refine And.intro rfl (And.intro (fun g => ?_) (fun g => ?_))
    · have g : n ≤ upd σ.1 f_thrownCode (Int32.ofInt 0) f_tapeSize := g
      rw [ez1, ek] at g
      have g2 : k ≤ t := (nI_leI hk (by omega)).mp g
      refine mjZ_re rfl rfl 5 ty1 ?_
      refine And.intro rfl (And.intro (Or.inl rfl) (fun ty2 => ?_))
      exact And.intro rfl (And.intro (Or.inr ⟨rfl, Or.inr rfl⟩) (And.intro ((Fr.i (by decide)).tr (Fr.i (by decide))) (Or.inl ⟨k, g2, ek, rfl, by rw [← ek]; show upd (upd σ.1 f_thrownCode (Int32.ofInt 0)) f_tapeSize n f_tapeSize = n; rw [pk_us]⟩)))
    · refine mjZ_re rfl rfl 2 ty1 ?_
      refine And.intro rfl (And.intro (Or.inr ⟨rfl, Or.inl rfl⟩) (And.intro (Fr.i (by decide)) (Or.inr ⟨fun j hj e => g ?_, rfl, ez1⟩)))
      show n ≤ upd σ.1 f_thrownCode (Int32.ofInt 0) f_tapeSize
      rw [ez1, e]; exact nI_le hj (by omega)
end FACE
