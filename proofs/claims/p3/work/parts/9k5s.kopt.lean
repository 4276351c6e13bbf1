/-! SET's words behind the text. -/
def wyN (v : List Int32) : Nat := if v.map up = tb 173 then 1 else if v.map up = tb 174 then 2 else if v.map up = tb 175 then 3 else if v.map up = tb 176 then 4 else if v.map up = tb 177 then 5 else 0
theorem isT {v : List Int32} {c : Int64} {i : Nat} (h : tb i = bl c 8) : isF v c = 1 ↔ v.map up = tb i := by
  unfold isF
  by_cases z : v.map up = bl c 8
  · rw [if_pos z, h]; exact ⟨fun _ => z, fun _ => rfl⟩
  · rw [if_neg z, h]; exact ⟨fun y => absurd y (by decide), fun y => absurd y z⟩
theorem osM_w (v : List Int32) : (wyN v ≤ 1 ∧ osM v = none) ∨ (2 ≤ wyN v ∧ wyN v ≤ 5 ∧ osM v = some (wyN v - 2)) := by
  have i3 : isF v 1347961172 = 1 ↔ v.map up = tb 177 := isT (by decide)
  have i2 : isF v 1163411796 = 1 ↔ v.map up = tb 176 := isT (by decide)
  have i1 : isF v 20568 = 1 ↔ v.map up = tb 175 := isT (by decide)
  have i0 : isF v 17752 = 1 ↔ v.map up = tb 174 := isT (by decide)
  unfold wyN osM
  by_cases c1 : v.map up = tb 173
  · rw [if_pos c1, if_neg (fun z => absurd (c1.symm.trans (i3.mp z)) (by decide)), if_neg (fun z => absurd (c1.symm.trans (i2.mp z)) (by decide)), if_neg (fun z => absurd (c1.symm.trans (i1.mp z)) (by decide)), if_neg (fun z => absurd (c1.symm.trans (i0.mp z)) (by decide))]
    exact Or.inl ⟨Nat.le_refl _, rfl⟩
  rw [if_neg c1]
  by_cases c2 : v.map up = tb 174
  · rw [if_pos c2, if_neg (fun z => absurd (c2.symm.trans (i3.mp z)) (by decide)), if_neg (fun z => absurd (c2.symm.trans (i2.mp z)) (by decide)), if_neg (fun z => absurd (c2.symm.trans (i1.mp z)) (by decide)), if_pos (i0.mpr c2)]
    exact Or.inr ⟨by decide, by decide, rfl⟩
  rw [if_neg c2]
  by_cases c3 : v.map up = tb 175
  · rw [if_pos c3, if_neg (fun z => absurd (c3.symm.trans (i3.mp z)) (by decide)), if_neg (fun z => absurd (c3.symm.trans (i2.mp z)) (by decide)), if_pos (i1.mpr c3)]
    exact Or.inr ⟨by decide, by decide, rfl⟩
  rw [if_neg c3]
  by_cases c4 : v.map up = tb 176
  · rw [if_pos c4, if_neg (fun z => absurd (c4.symm.trans (i3.mp z)) (by decide)), if_pos (i2.mpr c4)]
    exact Or.inr ⟨by decide, by decide, rfl⟩
  rw [if_neg c4]
  by_cases c5 : v.map up = tb 177
  · rw [if_pos c5, if_pos (i3.mpr c5)]
    exact Or.inr ⟨by decide, by decide, rfl⟩
  · rw [if_neg c5, if_neg (fun z => c5 (i3.mp z)), if_neg (fun z => c4 (i2.mp z)), if_neg (fun z => c3 (i1.mp z)), if_neg (fun z => c2 (i0.mp z))]
    exact Or.inl ⟨by decide, rfl⟩
theorem wyN_1 (v : List Int32) : wyN v = 1 ↔ v.map up = tb 173 := by
  unfold wyN
  constructor
  · intro h
    by_cases c1 : v.map up = tb 173
    · exact c1
    · rw [if_neg c1] at h
      by_cases c2 : v.map up = tb 174
      · rw [if_pos c2] at h; exact absurd h (by decide)
      rw [if_neg c2] at h
      by_cases c3 : v.map up = tb 175
      · rw [if_pos c3] at h; exact absurd h (by decide)
      rw [if_neg c3] at h
      by_cases c4 : v.map up = tb 176
      · rw [if_pos c4] at h; exact absurd h (by decide)
      rw [if_neg c4] at h
      by_cases c5 : v.map up = tb 177
      · rw [if_pos c5] at h; exact absurd h (by decide)
      rw [if_neg c5] at h; exact absurd h (by decide)
  · intro h; rw [if_pos h]
section KOPT
variable {Y : Nat → MethodName × ByteArray} {d : Nat} {σ0 σ u : kS} {B ws nm nm' : List (List Int32)} {ks : List KC}
theorem kx_timing (ty : kTY σ) (w : KWd σ0 B σ ws nm ks) {k : Nat} {v : List Int32} (hv : ws[k]? = some v) (hk : k < 2 ^ 30) (x1 : Int32) (e1 : x1 = nI k) : kjY kPP (kQQ Y) (d + 7) 171 0 (mjL0 2 [.ref 67, .int x1]) [] σ (fun r u => u = σ ∧ r = some (.int (nI (wyN v)))) := by
  have ret : ∀ n : Nat, wyN v = n → kjY kPP (kQQ Y) (d + 7) 171 41 [some (.ref 67), some (.int x1)] [.int (nI n)] σ (fun r u => u = σ ∧ r = some (.int (nI (wyN v)))) := by
    intro n hn
    refine kjZ_y rfl rfl 1 _ _ _ _ ty ?_
    refine And.intro rfl (And.intro (Or.inl rfl) ?_)
    exact ⟨rfl, by rw [hn]⟩
  refine kjZ_y rfl rfl 5 _ _ _ _ ty ?_
  refine (And.intro (ty.k (by decide) rfl) (And.intro rfl (And.intro (Nat.le_of_ble_eq_true rfl) (And.intro (Or.inl ⟨(Nat.le_of_ble_eq_true rfl), (ty.k (by decide) rfl)⟩) (And.intro (Nat.le_of_ble_eq_true rfl) (And.intro (Nat.le_of_ble_eq_true rfl) (kjY_mono ty (fun q_ u1 ty1 xu1 h_ => ?_) (kx_is ty w (i := 173) (by decide) k hk _ e1))))))))
  obtain ⟨rfl, q1⟩ := h_
  intro _ _
  rcases q1 with ⟨rfl, v1, g1, g2⟩ | ⟨rfl, g1⟩
  · rw [hv] at g1; cases g1
    refine kjZ_y rfl rfl 1 _ _ _ _ ty1 ?_
    refine And.intro (fun c => ?_) (fun c => ?_)
    · exact absurd (show (1 : Int32) = 0 from c) (by decide)
    refine kjZ_y rfl rfl 2 _ _ _ _ ty1 ?_
    exact ret 1 (by unfold wyN; rw [if_pos g2])
  have g1 := g1 v hv
  refine kjZ_y rfl rfl 1 _ _ _ _ ty1 ?_
  refine And.intro (fun c => ?_) (fun c => ?_)
  rotate_left
  · exact absurd rfl c
  refine kjZ_y rfl rfl 5 _ _ _ _ ty1 ?_
  refine (And.intro (ty1.k (by decide) rfl) (And.intro rfl (And.intro (Nat.le_of_ble_eq_true rfl) (And.intro (Or.inl ⟨(Nat.le_of_ble_eq_true rfl), (ty1.k (by decide) rfl)⟩) (And.intro (Nat.le_of_ble_eq_true rfl) (And.intro (Nat.le_of_ble_eq_true rfl) (kjY_mono ty1 (fun q_ u2 ty2 xu2 h_ => ?_) (kx_is ty1 w (i := 174) (by decide) k hk _ e1))))))))
  obtain ⟨rfl, q2⟩ := h_
  intro _ _
  rcases q2 with ⟨rfl, v1, h1, h2⟩ | ⟨rfl, h1⟩
  · rw [hv] at h1; cases h1
    refine kjZ_y rfl rfl 1 _ _ _ _ ty2 ?_
    refine And.intro (fun c => ?_) (fun c => ?_)
    · exact absurd (show (1 : Int32) = 0 from c) (by decide)
    refine kjZ_y rfl rfl 2 _ _ _ _ ty2 ?_
    exact ret 2 (by unfold wyN; rw [if_neg g1, if_pos h2])
  have h1 := h1 v hv
  refine kjZ_y rfl rfl 1 _ _ _ _ ty2 ?_
  refine And.intro (fun c => ?_) (fun c => ?_)
  rotate_left
  · exact absurd rfl c
  refine kjZ_y rfl rfl 5 _ _ _ _ ty2 ?_
  refine (And.intro (ty2.k (by decide) rfl) (And.intro rfl (And.intro (Nat.le_of_ble_eq_true rfl) (And.intro (Or.inl ⟨(Nat.le_of_ble_eq_true rfl), (ty2.k (by decide) rfl)⟩) (And.intro (Nat.le_of_ble_eq_true rfl) (And.intro (Nat.le_of_ble_eq_true rfl) (kjY_mono ty2 (fun q_ u3 ty3 xu3 h_ => ?_) (kx_is ty2 w (i := 175) (by decide) k hk _ e1))))))))
  obtain ⟨rfl, q3⟩ := h_
  intro _ _
  rcases q3 with ⟨rfl, v1, i1, i2⟩ | ⟨rfl, i1⟩
  · rw [hv] at i1; cases i1
    refine kjZ_y rfl rfl 1 _ _ _ _ ty3 ?_
    refine And.intro (fun c => ?_) (fun c => ?_)
    · exact absurd (show (1 : Int32) = 0 from c) (by decide)
    refine kjZ_y rfl rfl 2 _ _ _ _ ty3 ?_
    exact ret 3 (by unfold wyN; rw [if_neg g1, if_neg h1, if_pos i2])
  have i1 := i1 v hv
  refine kjZ_y rfl rfl 1 _ _ _ _ ty3 ?_
  refine And.intro (fun c => ?_) (fun c => ?_)
  rotate_left
  · exact absurd rfl c
  refine kjZ_y rfl rfl 5 _ _ _ _ ty3 ?_
  refine (And.intro (ty3.k (by decide) rfl) (And.intro rfl (And.intro (Nat.le_of_ble_eq_true rfl) (And.intro (Or.inl ⟨(Nat.le_of_ble_eq_true rfl), (ty3.k (by decide) rfl)⟩) (And.intro (Nat.le_of_ble_eq_true rfl) (And.intro (Nat.le_of_ble_eq_true rfl) (kjY_mono ty3 (fun q_ u4 ty4 xu4 h_ => ?_) (kx_is ty3 w (i := 176) (by decide) k hk _ e1))))))))
  obtain ⟨rfl, q4⟩ := h_
  intro _ _
  rcases q4 with ⟨rfl, v1, j1, j2⟩ | ⟨rfl, j1⟩
  · rw [hv] at j1; cases j1
    refine kjZ_y rfl rfl 1 _ _ _ _ ty4 ?_
    refine And.intro (fun c => ?_) (fun c => ?_)
    · exact absurd (show (1 : Int32) = 0 from c) (by decide)
    refine kjZ_y rfl rfl 2 _ _ _ _ ty4 ?_
    exact ret 4 (by unfold wyN; rw [if_neg g1, if_neg h1, if_neg i1, if_pos j2])
  have j1 := j1 v hv
  refine kjZ_y rfl rfl 1 _ _ _ _ ty4 ?_
  refine And.intro (fun c => ?_) (fun c => ?_)
  rotate_left
  · exact absurd rfl c
  refine kjZ_y rfl rfl 5 _ _ _ _ ty4 ?_
  refine (And.intro (ty4.k (by decide) rfl) (And.intro rfl (And.intro (Nat.le_of_ble_eq_true rfl) (And.intro (Or.inl ⟨(Nat.le_of_ble_eq_true rfl), (ty4.k (by decide) rfl)⟩) (And.intro (Nat.le_of_ble_eq_true rfl) (And.intro (Nat.le_of_ble_eq_true rfl) (kjY_mono ty4 (fun q_ u5 ty5 xu5 h_ => ?_) (kx_is ty4 w (i := 177) (by decide) k hk _ e1))))))))
  obtain ⟨rfl, q5⟩ := h_
  intro _ _
  rcases q5 with ⟨rfl, v1, l1, l2⟩ | ⟨rfl, l1⟩
  · rw [hv] at l1; cases l1
    refine kjZ_y rfl rfl 1 _ _ _ _ ty5 ?_
    refine And.intro (fun c => ?_) (fun c => ?_)
    · exact absurd (show (1 : Int32) = 0 from c) (by decide)
    refine kjZ_y rfl rfl 2 _ _ _ _ ty5 ?_
    exact ret 5 (by unfold wyN; rw [if_neg g1, if_neg h1, if_neg i1, if_neg j1, if_pos l2])
  have l1 := l1 v hv
  refine kjZ_y rfl rfl 1 _ _ _ _ ty5 ?_
  refine And.intro (fun c => ?_) (fun c => ?_)
  rotate_left
  · exact absurd rfl c
  refine kjZ_y rfl rfl 1 _ _ _ _ ty5 ?_
  exact ret 0 (by unfold wyN; rw [if_neg g1, if_neg h1, if_neg i1, if_neg j1, if_neg l1])
end KOPT
