/-! One request out of what was sent. -/
section PARSE
variable {Y : Nat → MethodName × ByteArray} {d : Nat}
/-- what a place of the line gives -/
def prK (u : mjS) (p s : Nat) (x : Int32) : Prop := (x = -1 ∧ ∃ ws, AR u ws) ∨ (x = -2 ∧ ∃ ws, AR u ws) ∨ ∃ q ws, x = nI q ∧ p < q ∧ q ≤ s ∧ AR u ws ∧ p + rw ws ≤ q ∧ ∀ w ∈ ws, WOK w
set_option maxRecDepth 100000 in
theorem c_send_p (K : mjK) {p s : Nat} (hp : p < s) (hs : s ≤ 131200) (x1 x2 x3 x4 x5 x6 x7 : Int32) (l8 : Option Value) (e4 : x4 = nI s) (e5 : x5 = nI p) {σ : mjS} (ty : mjTY σ) (hK : ∀ u x8, mjTY u → Fr stFs awH σ u → prK u p s x8 → mjY mjPP (mjQQ Y) (d + 2) 173 110 [some (.ref 0), some (.int x1), some (.int x2), some (.int x3), some (.int x4), some (.int x5), some (.int x6), some (.int x7), some (.int x8)] [] u K) :
    mjY mjPP (mjQQ Y) (d + 2) 173 90 [some (.ref 0), some (.int x1), some (.int x2), some (.int x3), some (.int x4), some (.int x5), some (.int x6), some (.int x7), l8] [] σ K := by
  have v5 : vp_in x5 131200 := by rw [e5]; exact vp_in_nI (by omega) (by decide)
  refine mjZ_y rfl rfl 6 _ _ _ _ ty ?_
  refine (And.intro rfl (And.intro (Or.inl rfl) (And.intro v5 (And.intro (fun a => ?_) (fun a => ?_)))))
  · refine mjZ_y rfl rfl 6 _ _ _ _ ty ?_
    refine (And.intro rfl (And.intro (Nat.le_of_ble_eq_true rfl) (And.intro rfl (And.intro (Nat.le_of_ble_eq_true rfl) (And.intro (Nat.le_of_ble_eq_true rfl) (mjY_mono ty (fun q_ u1 ty1 h_ => ?_) (c_plainAt ty r_line0 p s rfl (by decide) (by decide) (by decide) hs (by decide) hp e5 e4)))))))
    have k1 := h_
    intro _
    obtain ⟨f1, ⟨rfl, a1⟩ | ⟨rfl, a1⟩ | ⟨q, ws, rfl, h1, h2, h3, h4, h5⟩⟩ := k1
    all_goals have f1 : Fr stFs awH σ u1 := f1.up (by decide) (by decide)
    · refine mjZ_y rfl rfl 1 _ _ _ _ ty1 ?_
      refine (And.intro (Nat.le_of_ble_eq_true rfl) ?_)
      exact hK u1 _ ty1 f1 (Or.inl ⟨rfl, a1⟩)
    · refine mjZ_y rfl rfl 1 _ _ _ _ ty1 ?_
      refine (And.intro (Nat.le_of_ble_eq_true rfl) ?_)
      exact hK u1 _ ty1 f1 (Or.inr (Or.inl ⟨rfl, a1⟩))
    · refine mjZ_y rfl rfl 1 _ _ _ _ ty1 ?_
      refine (And.intro (Nat.le_of_ble_eq_true rfl) ?_)
      exact hK u1 _ ty1 f1 (Or.inr (Or.inr ⟨q, ws, rfl, h1, h2, h3, h4, fun w hw => ⟨by have := h5 w hw; omega, AR_b h3 ty1 w hw⟩⟩))
  · refine mjZ_y rfl rfl 6 _ _ _ _ ty ?_
    refine (And.intro rfl (And.intro (Nat.le_of_ble_eq_true rfl) (And.intro rfl (And.intro (Nat.le_of_ble_eq_true rfl) (And.intro (Nat.le_of_ble_eq_true rfl) (mjY_mono ty (fun q_ u1 ty1 h_ => ?_) (c_starAt ty r_line0 p s rfl (by decide) (by decide) (by decide) hs (by decide) hp (fun z hz _ => SLK_line _ _ _ (by have := lnF_le hz; omega)) e5 e4)))))))
    have k1 := h_
    intro _
    obtain ⟨f1, a1, m1⟩ := k1
    have f2 : Fr stFs awH σ u1 := f1.up (by decide) (by decide)
    cases e : starF (σ.2.2.1 r_line0) p s with
    | none =>
      rw [e] at m1
      have m1 : q_ = some (.int (-1)) := m1
      subst m1
      refine mjZ_y rfl rfl 2 _ _ _ _ ty1 ?_
      refine (And.intro (Nat.le_of_ble_eq_true rfl) ?_)
      exact hK u1 _ ty1 f2 (Or.inl ⟨rfl, a1⟩)
    | some o =>
      cases o with
      | none =>
        rw [e] at m1
        have m1 : q_ = some (.int (-2)) := m1
        subst m1
        refine mjZ_y rfl rfl 2 _ _ _ _ ty1 ?_
        refine (And.intro (Nat.le_of_ble_eq_true rfl) ?_)
        exact hK u1 _ ty1 f2 (Or.inr (Or.inl ⟨rfl, a1⟩))
      | some z =>
        rw [e] at m1
        have m1 : q_ = some (.int (nI z.2)) ∧ AR u1 ([] ++ z.1) := m1
        obtain ⟨m2, m3⟩ := m1
        rw [List.nil_append] at m3
        subst m2
        obtain ⟨g1, g2, g3, g4, g5⟩ := star_rw e
        refine mjZ_y rfl rfl 2 _ _ _ _ ty1 ?_
        refine (And.intro (Nat.le_of_ble_eq_true rfl) ?_)
        exact hK u1 _ ty1 f2 (Or.inr (Or.inr ⟨z.2, z.1, rfl, g2, g3, m3, g1, fun w hw => ⟨g5 w hw, AR_b m3 ty1 w hw⟩⟩))
end PARSE
