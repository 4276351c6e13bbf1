/-! SET, from its first word on. -/
section KSET7
variable {Y : Nat → MethodName × ByteArray} {d : Nat} {σ0 σ u : kS} {B ws nm nm' : List (List Int32)} {ks : List KC}
theorem setP.tr {σ1 : kS} {v a : List Int32} {j : Nat} {r : Option Value} (s : SCl scU σ σ1) (h : setP σ0 B σ1 ws nm ks v a j r u) : setP σ0 B σ ws nm ks v a j r u := by
  unfold setP at h ⊢
  rw [(s (59, 16) (by decide)).2.1] at h
  rcases h with ⟨h1, h2⟩ | ⟨f, ot, h1, h2⟩
  · exact Or.inl ⟨h1, h2.tr s PRE.rf⟩
  · exact Or.inr ⟨f, ot, h1, h2.tr s⟩
theorem kx_set (ty : kTY σ) (w : KWd σ0 B σ ws nm ks) (hr : RSD ks) (hB : BOK B ws) {j : Nat} (hj : CMD σ j) {v a : List Int32} (hv : ws[1]? = some v) (ha : ws[2]? = some a) (hal : a.length ≤ 16384) (hk1 : ks.length + 1 ≤ 2600) (hcap : xtA (skA ks) + 16384 ≤ 98304) :
    kjY kPP (kQQ Y) (d + 9) 172 0 (mjL0 6 [.ref 67]) [] σ (setP σ0 B σ ws nm ks v a j) := by
  have hlen := (List.getElem?_eq_some_iff.mp ha).1
  refine kjZ_y rfl rfl 2 _ _ _ _ ty ?_
  refine (And.intro (Nat.le_of_ble_eq_true rfl) (And.intro (Or.inl ⟨(Nat.le_of_ble_eq_true rfl), (ty.k (by decide) rfl)⟩) (And.intro (Nat.le_of_ble_eq_true rfl) (And.intro (Nat.le_of_ble_eq_true rfl) (kjY_mono ty (fun q_ u1 ty1 xu1 h_ => ?_) (kx_readOpt ty w (by omega)))))))
  obtain ⟨w1, s1, q⟩ := h_
  intro _ _
  have sU : SCl scU σ u1 := s1.sub (by decide +kernel)
  rcases q with ⟨rfl, q⟩ | ⟨f, o, hR, rfl, hO⟩
  · refine kjZ_y rfl rfl 1 _ _ _ _ ty1 ?_
    refine And.intro (fun c => ?_) (fun c => ?_)
    · exact absurd rfl c
    refine kjZ_y rfl rfl 4 _ _ _ _ ty1 ?_
    refine (And.intro (ty1.k (by decide) rfl) (And.intro rfl (And.intro (Nat.le_of_ble_eq_true rfl) (And.intro (Or.inl ⟨(Nat.le_of_ble_eq_true rfl), (ty1.k (by decide) rfl)⟩) (And.intro (Nat.le_of_ble_eq_true rfl) (And.intro (Nat.le_of_ble_eq_true rfl) (kjY_mono ty1 (fun q_ u2 ty2 xu2 h_ => ?_) (kx_refuse ty1 w1 (by decide)))))))))
    obtain ⟨rfl, w2, s2⟩ := h_
    intro _ _
    refine kjZ_y rfl rfl 1 _ _ _ _ ty2 ?_
    refine And.intro rfl (And.intro rfl ?_)
    exact Or.inl ⟨by unfold osR; rw [q]; rfl, cd_N PRE.rf w2 (sU.tr (s2.sub scUA))⟩
  refine kjZ_y rfl rfl 1 _ _ _ _ ty1 ?_
  refine And.intro (fun c => ?_) (fun c => ?_)
  rotate_left
  · exact absurd (show ¬ (1 : Int32) = 0 by decide) c
  have hj1 : CMD u1 j := ⟨(sU (53, 8) (by decide)).2.2.trans hj.1, hj.2⟩
  have hSF : ∀ m t, o = some (m, t) → tmM (decide (u1.1 67 5 = 2 ∨ u1.1 67 5 = 4)) (decide (u1.1 67 5 = 2 ∨ u1.1 67 5 = 3)) = m := by
    intro m t ho
    rcases hO.2.2 with h | h | h
    · rw [h.2.1] at ho; cases ho
    · rw [h.2.1] at ho; cases ho
    · obtain ⟨-, m', t', i, h, hm, h5, -⟩ := h
      rw [ho] at h; cases h
      rw [h5]
      have : m = 0 ∨ m = 1 ∨ m = 2 ∨ m = 3 := by omega
      rcases this with rfl | rfl | rfl | rfl <;> decide
  have s31 : ∀ x1 x2 : Int32, (x1 = if decide (u1.1 67 5 = 2 ∨ u1.1 67 5 = 4) = true then 1 else 0) → (x2 = if decide (u1.1 67 5 = 2 ∨ u1.1 67 5 = 3) = true then 1 else 0) → kjY kPP (kQQ Y) (d + 9) 172 31 [some (.ref 67), some (.int x1), none, none, none, none] [.int x2] u1 (setP σ0 B σ ws nm ks v a j) := by
    intro x1 x2 e1 e2
    refine kjZ_y rfl rfl 1 _ _ _ _ ty1 ?_
    refine (And.intro (Nat.le_of_ble_eq_true rfl) ?_)
    exact kjY_mono ty1 (fun r z _ _ hz => hz.tr sU) (kx_set32 (d := d + 1) ty1 w1 hr hB hj1 hv ha hal hk1 hcap hO hR _ _ hSF x1 x2 e1 e2)
  have s19 : ∀ x1 : Int32, (x1 = if decide (u1.1 67 5 = 2 ∨ u1.1 67 5 = 4) = true then 1 else 0) → kjY kPP (kQQ Y) (d + 9) 172 19 [some (.ref 67), none, none, none, none, none] [.int x1] u1 (setP σ0 B σ ws nm ks v a j) := by
    intro x1 e1
    refine kjZ_y rfl rfl 5 _ _ _ _ ty1 ?_
    refine (And.intro (Nat.le_of_ble_eq_true rfl) (And.intro (ty1.k (by decide) rfl) (And.intro (fun c2 => ?_) (fun c2 => ?_))))
    · have c2 : u1.1 67 5 = 2 := c2
      refine kjZ_y rfl rfl 2 _ _ _ _ ty1 ?_
      exact s31 x1 _ e1 (by rw [decide_eq_true (Or.inl c2)]; rfl)
    have c2 : ¬ u1.1 67 5 = 2 := c2
    refine kjZ_y rfl rfl 4 _ _ _ _ ty1 ?_
    refine (And.intro (ty1.k (by decide) rfl) (And.intro (fun c3 => ?_) (fun c3 => ?_)))
    · have c3 : ¬ u1.1 67 5 = 3 := c3
      refine kjZ_y rfl rfl 1 _ _ _ _ ty1 ?_
      exact s31 x1 _ e1 (by rw [decide_eq_false (fun z => z.elim c2 c3)]; rfl)
    · have c3 : u1.1 67 5 = 3 := Decidable.of_not_not (fun z => c3 z)
      refine kjZ_y rfl rfl 2 _ _ _ _ ty1 ?_
      exact s31 x1 _ e1 (by rw [decide_eq_true (Or.inr c3)]; rfl)
  refine kjZ_y rfl rfl 4 _ _ _ _ ty1 ?_
  refine (And.intro (ty1.k (by decide) rfl) (And.intro (fun c2 => ?_) (fun c2 => ?_)))
  · have c2 : u1.1 67 5 = 2 := c2
    refine kjZ_y rfl rfl 2 _ _ _ _ ty1 ?_
    exact s19 _ (by rw [decide_eq_true (Or.inl c2)]; rfl)
  have c2 : ¬ u1.1 67 5 = 2 := c2
  refine kjZ_y rfl rfl 4 _ _ _ _ ty1 ?_
  refine (And.intro (ty1.k (by decide) rfl) (And.intro (fun c3 => ?_) (fun c3 => ?_)))
  · have c3 : ¬ u1.1 67 5 = 4 := c3
    refine kjZ_y rfl rfl 1 _ _ _ _ ty1 ?_
    exact s19 _ (by rw [decide_eq_false (fun z => z.elim c2 c3)]; rfl)
  · have c3 : u1.1 67 5 = 4 := Decidable.of_not_not (fun z => c3 z)
    refine kjZ_y rfl rfl 2 _ _ _ _ ty1 ?_
    exact s19 _ (by rw [decide_eq_true (Or.inr c3)]; rfl)
end KSET7
