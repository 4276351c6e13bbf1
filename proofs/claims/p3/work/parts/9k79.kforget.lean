/-! Words: all are forgotten. -/
section KFORGET
variable {Y : Nat → MethodName × ByteArray} {d : Nat} {σ : kS}
theorem k_fillI_l {r N : Nat} (kr : σ.2.2.2.1 r = (20, N)) (hN : N < 2 ^ 30) (x1 x3 : Int32) (e3 : x3 = nI N) : ∀ (f i : Nat) (x2 : Int32) (u : kS), i + f = N → x2 = nI i → kTY u → u.2 = σ.2 → (∀ h x, ¬ h = r → u.1 h x = σ.1 h x) → (∀ x, x < i → u.1 r x = x1) →
    kjY kPP (kQQ Y) d 310 5 [some (.ref r), some (.int x1), some (.int x2), some (.int x3)] [] u (fun q z => q = none ∧ z.2 = σ.2 ∧ (∀ h x, ¬ h = r → z.1 h x = σ.1 h x) ∧ ∀ x, x < N → z.1 r x = x1) := by
  intro f
  induction f with
  | zero =>
    intro i x2 u hi e2 tu h1 h2 h3
    have kr' : u.2.2.2.1 r = (20, N) := by rw [show u.2.2.2.1 = σ.2.2.2.1 from congrArg (fun t => t.2.2.1) h1]; exact kr
    refine kjZ_y rfl rfl 3 _ _ _ _ tu ?_
    refine And.intro (fun c => ?_) (fun c => ?_)
    rotate_left
    · refine absurd (show x3 ≤ x2 from ?_) c
      rw [e3, e2, nle (by omega) (by omega)]; omega
    refine kjZ_y rfl rfl 1 _ _ _ _ tu ?_
    refine And.intro rfl (And.intro rfl ?_)
    exact ⟨rfl, h1, h2, fun x hx => h3 x (by omega)⟩
  | succ f ih =>
    intro i x2 u hi e2 tu h1 h2 h3
    have kr' : u.2.2.2.1 r = (20, N) := by rw [show u.2.2.2.1 = σ.2.2.2.1 from congrArg (fun t => t.2.2.1) h1]; exact kr
    have ci : x2.toNatClampNeg = i := by rw [e2]; exact nI_clamp (by omega)
    refine kjZ_y rfl rfl 3 _ _ _ _ tu ?_
    refine And.intro (fun c => ?_) (fun c => ?_)
    · refine absurd (show x3 ≤ x2 from c) ?_
      rw [e3, e2, nle (by omega) (by omega)]; omega
    refine kjZ_y rfl rfl 6 _ _ _ _ tu ?_
    refine (And.intro (kdk kr') (And.intro (kdv kr' (by rw [e2]; exact vp_in_nI (by omega) (by omega))) (fun tu' => ?_)))
    have go : ∀ z, kTY z → z = (mjIu u.1 r x2.toNatClampNeg x1, u.2) → kjY kPP (kQQ Y) d 310 5 [some (.ref r), some (.int x1), some (.int (x2 + 1)), some (.int x3)] [] z (fun q z => q = none ∧ z.2 = σ.2 ∧ (∀ h x, ¬ h = r → z.1 h x = σ.1 h x) ∧ ∀ x, x < N → z.1 r x = x1) := by
      intro z tz ez
      rw [ci] at ez
      refine ih (i + 1) _ z (by omega) (by rw [e2]; exact nI_1 i) tz (by rw [ez]; exact h1) (fun h x hh => ?_) (fun x hx => ?_)
      · rw [ez]; show mjIu u.1 r i x1 h x = _; rw [mjIu_n hh]; exact h2 h x hh
      · rw [ez]; show mjIu u.1 r i x1 r x = _; rw [mjIu_s]
        by_cases y : x = i
        · rw [if_pos y]
        · rw [if_neg y]; exact h3 x (by omega)
    exact go _ tu' rfl
theorem k_wforget (ty : kTY σ) (ow : OWN σ) (po : POT σ) {nm : List (List Int32)} (hw : WRD σ nm) : kjY kPP (kQQ Y) (d + 1) 75 0 (mjL0 1 [.ref 48]) [] σ (fun r u => r = none ∧ WRD u [] ∧ u.2 = σ.2 ∧ (∀ h x, ¬ h = 52 → ¬ (h = 48 ∧ x = 4) → u.1 h x = σ.1 h x)) := by
  have k52 : σ.2.2.2.1 52 = (20, 1024) := ty.kl (h := 52) (c := (20, 1024)) (by decide) rfl
  obtain ⟨rb, NB, rs, NS, rc, ⟨b1, b2, b3, b3'⟩, ⟨s1, s2, s3, s4, s5, s5'⟩, a1, a2, a3, a4, a5, a6, a7, a8⟩ := hw
  have f52 : σ.2.2.1 48 3 = some 52 := by
    have k48 : (σ.2.2.2.1 48).1 = 2 := ty.k (by decide) rfl
    exact (ty.2.2.2.2.2.2.2.1 48 3 (by rw [k48]; decide) (by rw [k48]; decide) |> fun z => by rw [k48] at z; exact z.1)
  have nrs : ¬ rs = 52 := fun z => by
    have := ow (48, 1) (by decide) (48, 3) (by decide) (by rw [s1, z]; exact f52.symm)
    exact absurd this (by decide)
  have nrs48 : ¬ rs = 48 := fun z => by
    have k48 : (σ.2.2.2.1 48).1 = 2 := ty.k (by decide) rfl
    rw [z] at s2; rw [s2] at k48; exact absurd (show (20 : Nat) = 2 from k48) (by decide)
  refine kjZ_y rfl rfl 3 _ _ _ _ ty ?_
  refine (And.intro (ty.k (by decide) rfl) (And.intro (Or.inl rfl) (fun ty' => ?_)))
  have go : ∀ u, kTY u → u = (mjIu σ.1 48 4 (Int32.ofInt 0), σ.2) → kjY kPP (kQQ Y) (d + 1) 75 3 [some (.ref 48)] [] u (fun r u => r = none ∧ WRD u [] ∧ u.2 = σ.2 ∧ (∀ h x, ¬ h = 52 → ¬ (h = 48 ∧ x = 4) → u.1 h x = σ.1 h x)) := by
    intro u tu eu
    have ku : u.2.2.2.1 52 = (20, 1024) := by rw [eu]; exact k52
    have hf : kjY kPP (kQQ Y) d 310 0 (mjL0 4 [.ref 52, .int (Int32.ofInt 0)]) [] u (fun q z => q = none ∧ z.2 = u.2 ∧ (∀ h x, ¬ h = 52 → z.1 h x = u.1 h x) ∧ ∀ x, x < 1024 → z.1 52 x = Int32.ofInt 0) := by
      refine kjZ_y rfl rfl 5 _ _ _ _ tu ?_
      refine (And.intro (Nat.le_of_ble_eq_true rfl) (Or.inl (And.intro (kdq ku) (And.intro (Nat.le_of_ble_eq_true rfl) ?_))))
      exact k_fillI_l ku (by decide) _ _ (by rw [ku]) 1024 0 _ u (by decide) rfl tu rfl (fun _ _ _ => rfl) (fun x hx => absurd hx (Nat.not_lt_zero _))
    refine kjZ_y rfl rfl 4 _ _ _ _ tu ?_
    refine (And.intro (tu.k (by decide) rfl) (And.intro (Nat.le_of_ble_eq_true rfl) (And.intro (Nat.le_of_ble_eq_true rfl) (And.intro (Nat.le_of_ble_eq_true rfl) (kjY_mono tu (fun q_ u2 ty2 xu2 h_ => ?_) (hf))))))
    obtain ⟨rfl, q1, q2, q3⟩ := h_
    intro _ _
    refine kjZ_y rfl rfl 1 _ _ _ _ ty2 ?_
    refine And.intro rfl (And.intro rfl ?_)
    have e2 : u2.2 = σ.2 := by rw [q1, eu]
    have eI : ∀ h x, ¬ h = 52 → ¬ (h = 48 ∧ x = 4) → u2.1 h x = σ.1 h x := fun h x z1 z2 => by
      rw [q2 h x z1, eu]; show mjIu σ.1 48 4 _ h x = _; rw [mjIu_at, if_neg z2]
    have eF : u2.2.2.1 = σ.2.2.1 := congrArg (fun t => t.2.1) e2
    have eD : u2.2.2.2.1 = σ.2.2.2.1 := congrArg (fun t => t.2.2.1) e2
    refine ⟨rfl, ⟨rb, NB, rs, NS, rc, ⟨by rw [eF]; exact b1, by rw [eD]; exact b2, b3, b3'⟩, ⟨by rw [eF]; exact s1, by rw [eD]; exact s2, by rw [eF]; exact s3, by rw [eD]; exact s4, s5, s5'⟩, by show 0 + 1 ≤ NS; omega, ?_, fun i hi => ?_, Nat.zero_le _, fun i w h => (by cases h), List.nodup_nil, fun b hb => ?_, fun i hi => absurd hi (Nat.not_lt_zero _)⟩, e2, eI⟩
    · rw [q2 48 4 (by decide), eu]; show mjIu σ.1 48 4 _ 48 4 = _; rw [mjIu_at, if_pos ⟨rfl, rfl⟩]; rfl
    · have : i = 0 := Nat.le_zero.mp hi
      rw [this, eI rs 0 nrs (fun z => nrs48 z.1)]
      exact a3 0 (Nat.zero_le _)
    · rw [q3 b hb]; show Int32.ofInt 0 = (-1 : Int32) + 1; decide
  exact go _ ty' rfl
end KFORGET
