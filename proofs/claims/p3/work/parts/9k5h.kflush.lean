/-! FLUSHALL. -/
section KFLUSH
variable {Y : Nat → MethodName × ByteArray} {d : Nat} {σ0 σ u : kS} {B ws nm nm' : List (List Int32)} {ks : List KC}
theorem k_flush_l (K : kK) {N : Nat} (hN : N ≤ 5200) (x1 : Int32) (e1 : x1 = nI N)
    (hK : ∀ u x2, kTY u → KWd σ0 B u ws nm [] → SCl scA σ u → kjY kPP (kQQ Y) (d + 3) 157 33 [some (.ref 59), some (.int x1), some (.int x2)] [] u K) :
    ∀ (f i : Nat) (x2 : Int32) (R : List KC) (u : kS), i + f = N → R.length = f → x2 = nI i → kTY u → KWd σ0 B u ws nm R → SCl scA σ u →
    kjY kPP (kQQ Y) (d + 3) 157 13 [some (.ref 59), some (.int x1), some (.int x2)] [] u K := by
  intro f
  induction f with
  | zero =>
    intro i x2 R u hi hR e2 tu wu su
    have hR : R = [] := List.length_eq_zero_iff.mp hR
    subst hR
    refine kjZ_y rfl rfl 3 _ _ _ _ tu ?_
    refine And.intro (fun c => ?_) (fun c => ?_)
    rotate_left
    · refine absurd (show x1 ≤ x2 from ?_) c
      rw [e1, e2, nle (by omega) (by omega)]; omega
    exact hK u x2 tu wu su
  | succ f ih =>
    intro i x2 R u hi hR e2 tu wu su
    refine kjZ_y rfl rfl 3 _ _ _ _ tu ?_
    refine And.intro (fun c => ?_) (fun c => ?_)
    · refine absurd (show x1 ≤ x2 from c) ?_
      rw [e1, e2, nle (by omega) (by omega)]; omega
    rcases List.eq_nil_or_concat R with hF | ⟨R', z, hF⟩
    · rw [hF, List.length_nil] at hR; omega
    rw [List.concat_eq_append] at hF
    subst hF
    rw [List.length_append, List.length_singleton] at hR
    obtain ⟨ri, NK, g1, g2, g3, g4, g5⟩ := wu.ix
    rw [List.length_append, List.length_singleton] at g3 g5
    have e3 : u.1 59 13 - Int32.ofInt 1 = nI R'.length := by
      rw [g5]; show nI (R'.length + 1) - nI 1 = _; rw [pk_sub (by omega)]; rfl
    refine kjZ_y rfl rfl 9 _ _ _ _ tu ?_
    refine (And.intro (tu.k (by decide) rfl) (Exists.intro _ (And.intro g1 (And.intro (tu.k (by decide) rfl) (Or.inl (And.intro (kdk g2) (And.intro (kdv g2 (show vp_in (u.1 59 13 - Int32.ofInt 1) NK by rw [e3]; exact vp_in_nI (by omega) (by omega))) (And.intro (Nat.le_of_ble_eq_true rfl) (And.intro (Or.inl ⟨(Nat.le_of_ble_eq_true rfl), (tu.k (by decide) rfl)⟩) (And.intro (Nat.le_of_ble_eq_true rfl) (And.intro (Nat.le_of_ble_eq_true rfl) (kjY_mono tu (fun q_ u1 ty1 xu1 h_ => ?_) (kx_touch tu wu _)))))))))))))
    obtain ⟨rfl, w1, s1⟩ := h_
    intro _ _
    obtain ⟨-, -, -, -, -, -, g6⟩ := w1.ix
    rw [List.length_append, List.length_singleton] at g6
    have e4 : u1.1 59 13 - Int32.ofInt 1 = nI R'.length := by
      rw [g6]; show nI (R'.length + 1) - nI 1 = _; rw [pk_sub (by omega)]; rfl
    refine kjZ_y rfl rfl 6 _ _ _ _ ty1 ?_
    refine (And.intro (ty1.k (by decide) rfl) (And.intro (Nat.le_of_ble_eq_true rfl) (And.intro (Or.inl ⟨(Nat.le_of_ble_eq_true rfl), (ty1.k (by decide) rfl)⟩) (And.intro (Nat.le_of_ble_eq_true rfl) (And.intro (Nat.le_of_ble_eq_true rfl) (kjY_mono ty1 (fun q_ u2 ty2 xu2 h_ => ?_) (kx_dropAt ty1 w1 _ e4)))))))
    obtain ⟨rfl, w2, s2⟩ := h_
    intro _ _
    refine kjZ_y rfl rfl 2 _ _ _ _ ty2 ?_
    rw [List.append_nil] at w2
    exact ih (i + 1) _ R' u2 (by omega) (by omega) (by rw [e2]; exact nI_1 i) ty2 w2 ((su.tr s1).tr s2)
theorem kx_flush (ty : kTY σ) (w : KWd σ0 B σ ws nm ks) (hch : σ.1 59 18 = 0) {o : Option (List AK)} (ho : o = flF (skA ks)) :
    kjY kPP (kQQ Y) (d + 8) 157 0 (mjL0 3 [.ref 59]) [] σ (cdP σ0 B σ ws nm ks o) := by
  obtain ⟨ri, NK, g1, g2, g3, g4, g5⟩ := w.ix
  have s7 : ∀ x : Int32, (x = if ks.length = 0 then 0 else 1) → kjY kPP (kQQ Y) (d + 8) 157 7 [some (.ref 59), none, none] [.int x, .ref 59] σ (cdP σ0 B σ ws nm ks o) := by
    intro x ex
    have hx : x = 0 ∨ x = 1 := by rw [ex]; split; exact Or.inl rfl; exact Or.inr rfl
    refine kjZ_y rfl rfl 1 _ _ _ _ ty ?_
    refine (And.intro (ty.k (by decide) rfl) (And.intro (Or.inr ⟨rfl, hx⟩) (fun ty' => ?_)))
    have go : ∀ z, kTY z → z = (mjIu σ.1 59 18 x, σ.2) → kjY kPP (kQQ Y) (d + 8) 157 8 [some (.ref 59), none, none] [] z (cdP σ0 B σ ws nm ks o) := by
      intro z tz ez
      have wz : KWd σ0 B z ws nm ks := by rw [ez]; exact w.pi ty (by decide)
      have sz : SCl scG σ z := by rw [ez]; exact SCl.i (by decide +kernel)
      have cz : z.1 59 18 = x := by rw [ez]; show mjIu σ.1 59 18 x 59 18 = x; rw [mjIu_p]
      obtain ⟨-, -, -, -, -, -, g6⟩ := wz.ix
      refine kjZ_y rfl rfl 5 _ _ _ _ tz ?_
      refine (And.intro (tz.k (by decide) rfl) (And.intro (Nat.le_of_ble_eq_true rfl) (And.intro (Nat.le_of_ble_eq_true rfl) ?_)))
      refine k_flush_l (d := d + 5) (σ := z) _ (N := ks.length) (by omega) _ g6 ?_ ks.length 0 _ ks z (by omega) rfl rfl tz wz SCl.rf
      intro u x2 tu wu su
      refine kjZ_y rfl rfl 3 _ _ _ _ tu ?_
      refine (And.intro (tu.k (by decide) rfl) (And.intro (Nat.le_of_ble_eq_true rfl) (And.intro (Or.inl ⟨(Nat.le_of_ble_eq_true rfl), (tu.k (by decide) rfl)⟩) (And.intro (Nat.le_of_ble_eq_true rfl) (And.intro (Nat.le_of_ble_eq_true rfl) (kjY_mono tu (fun q_ u1 ty1 xu1 h_ => ?_) (kx_accept tu wu)))))))
      obtain ⟨rfl, w1, s1⟩ := h_
      intro _ _
      refine kjZ_y rfl rfl 1 _ _ _ _ ty1 ?_
      refine And.intro rfl (And.intro rfl ?_)
      have ec : u1.1 59 18 = x := ((su.tr s1) (59, 18) (by decide)).1.trans cz
      have sG : SCl scG σ u1 := sz.tr (su.tr s1).g
      by_cases hk : ks.length = 0
      · have hk0 : ks = [] := List.length_eq_zero_iff.mp hk
        subst hk0
        exact ⟨rfl, nm, [], PRE.rf, w1, fun x hx => absurd hx List.not_mem_nil, sG, Or.inl ⟨by rw [ho]; rfl, rfl, by rw [ec, ex]; exact hch.symm⟩⟩
      · refine ⟨rfl, nm, [], PRE.rf, w1, fun x hx => absurd hx List.not_mem_nil, sG, Or.inr ⟨?_, by rw [ec, ex, if_neg hk]⟩⟩
        rw [ho]
        cases ks with
        | nil => exact absurd rfl hk
        | cons a r => rfl
    exact go _ ty' rfl
  refine kjZ_y rfl rfl 4 _ _ _ _ ty ?_
  refine (And.intro (ty.k (by decide) rfl) (And.intro (fun c => ?_) (fun c => ?_)))
  · have c : σ.1 59 13 ≤ nI 0 := c
    rw [g5, nle (by omega) (by decide)] at c
    refine kjZ_y rfl rfl 1 _ _ _ _ ty ?_
    exact s7 _ (by rw [if_pos (by omega)]; rfl)
  · have c : ¬ σ.1 59 13 ≤ nI 0 := c
    rw [g5, nle (by omega) (by decide)] at c
    refine kjZ_y rfl rfl 2 _ _ _ _ ty ?_
    exact s7 _ (by rw [if_neg (by omega)]; rfl)
end KFLUSH
