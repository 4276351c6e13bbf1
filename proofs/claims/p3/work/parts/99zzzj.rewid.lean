/-! rewrite: what a key's sort asks for. -/
section REWR
variable {Y : Nat → MethodName × ByteArray} {d : Nat}
set_option maxRecDepth 100000 in
theorem c_rw_id (K : mjK) {σ : mjS} (ty : mjTY σ) {s : Int32} (x1 x2 : Int32) (l3 l4 l5 l6 l7 l8 l9 : Option Value) (v2 : vp_in x2 4700) (ek0 : σ.2.2.1 r_kSort x2.toNatClampNeg = s) (h5 : s = 0 ∨ s = 1 ∨ s = 2 ∨ s = 3 ∨ s = 4) (hK : ∀ x3 x4 x5 : Int32, x3 = nI (idS s) → x4 = nI (eaS s) → x5 = nI (ptS s) → mjY mjPP (mjQQ Y) d 191 96 [some (.ref 0), some (.int x1), some (.int x2), some (.int x3), some (.int x4), some (.int x5), l6, l7, l8, l9] [] σ K) :
    mjY mjPP (mjQQ Y) d 191 56 [some (.ref 0), some (.int x1), some (.int x2), l3, l4, l5, l6, l7, l8, l9] [] σ K := by
  rcases h5 with hs | hs | hs | hs | hs
  · have ek : σ.2.2.1 r_kSort x2.toNatClampNeg = 0 := by rw [ek0]; exact hs
    refine mjZ_y rfl rfl 12 _ _ _ _ ty ?_
    refine (And.intro (Nat.le_of_ble_eq_true rfl) (And.intro (Nat.le_of_ble_eq_true rfl) (And.intro (Nat.le_of_ble_eq_true rfl) (And.intro rfl (And.intro rfl (And.intro v2 (And.intro (fun q1 => ?_) (fun q1 => ?_))))))))
    rotate_left
    · exact absurd (fun z => absurd (ek.symm.trans (show σ.2.2.1 r_kSort x2.toNatClampNeg = 2 from z)) (by decide)) q1
    · skip
      refine mjZ_y rfl rfl 6 _ _ _ _ ty ?_
      refine (And.intro rfl (And.intro rfl (And.intro v2 (And.intro (fun q2 => ?_) (fun q2 => ?_)))))
      rotate_left
      · exact absurd (fun z => absurd (ek.symm.trans (show σ.2.2.1 r_kSort x2.toNatClampNeg = 3 from z)) (by decide)) q2
      · skip
        refine mjZ_y rfl rfl 6 _ _ _ _ ty ?_
        refine (And.intro rfl (And.intro rfl (And.intro v2 (And.intro (fun q3 => ?_) (fun q3 => ?_)))))
        rotate_left
        · exact absurd (fun z => absurd (ek.symm.trans (show σ.2.2.1 r_kSort x2.toNatClampNeg = 4 from z)) (by decide)) q3
        · skip
          refine mjZ_y rfl rfl 3 _ _ _ _ ty ?_
          refine And.intro (fun r1 => ?_) (fun r1 => ?_)
          · exact absurd (show (nI 38 : Int32) = nI 52 from r1) (by decide)
          · refine mjZ_y rfl rfl 3 _ _ _ _ ty ?_
            refine And.intro (fun r2 => ?_) (fun r2 => ?_)
            · exact hK _ _ _ (by rw [hs]; rfl) (by rw [hs]; rfl) (by rw [hs]; rfl)
            · exact absurd (show ¬ (nI 38 : Int32) = nI 78 by decide) r2
  · have ek : σ.2.2.1 r_kSort x2.toNatClampNeg = 1 := by rw [ek0]; exact hs
    refine mjZ_y rfl rfl 12 _ _ _ _ ty ?_
    refine (And.intro (Nat.le_of_ble_eq_true rfl) (And.intro (Nat.le_of_ble_eq_true rfl) (And.intro (Nat.le_of_ble_eq_true rfl) (And.intro rfl (And.intro rfl (And.intro v2 (And.intro (fun q1 => ?_) (fun q1 => ?_))))))))
    rotate_left
    · exact absurd (fun z => absurd (ek.symm.trans (show σ.2.2.1 r_kSort x2.toNatClampNeg = 2 from z)) (by decide)) q1
    · skip
      refine mjZ_y rfl rfl 6 _ _ _ _ ty ?_
      refine (And.intro rfl (And.intro rfl (And.intro v2 (And.intro (fun q2 => ?_) (fun q2 => ?_)))))
      rotate_left
      · exact absurd (fun z => absurd (ek.symm.trans (show σ.2.2.1 r_kSort x2.toNatClampNeg = 3 from z)) (by decide)) q2
      · skip
        refine mjZ_y rfl rfl 6 _ _ _ _ ty ?_
        refine (And.intro rfl (And.intro rfl (And.intro v2 (And.intro (fun q3 => ?_) (fun q3 => ?_)))))
        rotate_left
        · exact absurd (fun z => absurd (ek.symm.trans (show σ.2.2.1 r_kSort x2.toNatClampNeg = 4 from z)) (by decide)) q3
        · skip
          refine mjZ_y rfl rfl 3 _ _ _ _ ty ?_
          refine And.intro (fun r1 => ?_) (fun r1 => ?_)
          · exact absurd (show (nI 38 : Int32) = nI 52 from r1) (by decide)
          · refine mjZ_y rfl rfl 3 _ _ _ _ ty ?_
            refine And.intro (fun r2 => ?_) (fun r2 => ?_)
            · exact hK _ _ _ (by rw [hs]; rfl) (by rw [hs]; rfl) (by rw [hs]; rfl)
            · exact absurd (show ¬ (nI 38 : Int32) = nI 78 by decide) r2
  · have ek : σ.2.2.1 r_kSort x2.toNatClampNeg = 2 := by rw [ek0]; exact hs
    refine mjZ_y rfl rfl 12 _ _ _ _ ty ?_
    refine (And.intro (Nat.le_of_ble_eq_true rfl) (And.intro (Nat.le_of_ble_eq_true rfl) (And.intro (Nat.le_of_ble_eq_true rfl) (And.intro rfl (And.intro rfl (And.intro v2 (And.intro (fun q1 => ?_) (fun q1 => ?_))))))))
    · exact absurd (show σ.2.2.1 r_kSort x2.toNatClampNeg = 2 from ek) q1
    · refine mjZ_y rfl rfl 2 _ _ _ _ ty ?_
      refine (And.intro (Nat.le_of_ble_eq_true rfl) ?_)
      refine mjZ_y rfl rfl 6 _ _ _ _ ty ?_
      refine (And.intro rfl (And.intro rfl (And.intro v2 (And.intro (fun q2 => ?_) (fun q2 => ?_)))))
      rotate_left
      · exact absurd (fun z => absurd (ek.symm.trans (show σ.2.2.1 r_kSort x2.toNatClampNeg = 3 from z)) (by decide)) q2
      · skip
        refine mjZ_y rfl rfl 6 _ _ _ _ ty ?_
        refine (And.intro rfl (And.intro rfl (And.intro v2 (And.intro (fun q3 => ?_) (fun q3 => ?_)))))
        rotate_left
        · exact absurd (fun z => absurd (ek.symm.trans (show σ.2.2.1 r_kSort x2.toNatClampNeg = 4 from z)) (by decide)) q3
        · skip
          refine mjZ_y rfl rfl 3 _ _ _ _ ty ?_
          refine And.intro (fun r1 => ?_) (fun r1 => ?_)
          · refine mjZ_y rfl rfl 4 _ _ _ _ ty ?_
            refine (And.intro (Nat.le_of_ble_eq_true rfl) (And.intro (Nat.le_of_ble_eq_true rfl) ?_))
            exact hK _ _ _ (by rw [hs]; rfl) (by rw [hs]; rfl) (by rw [hs]; rfl)
          · exact absurd rfl r1
  · have ek : σ.2.2.1 r_kSort x2.toNatClampNeg = 3 := by rw [ek0]; exact hs
    refine mjZ_y rfl rfl 12 _ _ _ _ ty ?_
    refine (And.intro (Nat.le_of_ble_eq_true rfl) (And.intro (Nat.le_of_ble_eq_true rfl) (And.intro (Nat.le_of_ble_eq_true rfl) (And.intro rfl (And.intro rfl (And.intro v2 (And.intro (fun q1 => ?_) (fun q1 => ?_))))))))
    rotate_left
    · exact absurd (fun z => absurd (ek.symm.trans (show σ.2.2.1 r_kSort x2.toNatClampNeg = 2 from z)) (by decide)) q1
    · skip
      refine mjZ_y rfl rfl 6 _ _ _ _ ty ?_
      refine (And.intro rfl (And.intro rfl (And.intro v2 (And.intro (fun q2 => ?_) (fun q2 => ?_)))))
      · exact absurd (show σ.2.2.1 r_kSort x2.toNatClampNeg = 3 from ek) q2
      · refine mjZ_y rfl rfl 2 _ _ _ _ ty ?_
        refine (And.intro (Nat.le_of_ble_eq_true rfl) ?_)
        refine mjZ_y rfl rfl 6 _ _ _ _ ty ?_
        refine (And.intro rfl (And.intro rfl (And.intro v2 (And.intro (fun q3 => ?_) (fun q3 => ?_)))))
        rotate_left
        · exact absurd (fun z => absurd (ek.symm.trans (show σ.2.2.1 r_kSort x2.toNatClampNeg = 4 from z)) (by decide)) q3
        · skip
          refine mjZ_y rfl rfl 3 _ _ _ _ ty ?_
          refine And.intro (fun r1 => ?_) (fun r1 => ?_)
          · exact absurd (show (nI 64 : Int32) = nI 52 from r1) (by decide)
          · refine mjZ_y rfl rfl 3 _ _ _ _ ty ?_
            refine And.intro (fun r2 => ?_) (fun r2 => ?_)
            · exact hK _ _ _ (by rw [hs]; rfl) (by rw [hs]; rfl) (by rw [hs]; rfl)
            · exact absurd (show ¬ (nI 64 : Int32) = nI 78 by decide) r2
  · have ek : σ.2.2.1 r_kSort x2.toNatClampNeg = 4 := by rw [ek0]; exact hs
    refine mjZ_y rfl rfl 12 _ _ _ _ ty ?_
    refine (And.intro (Nat.le_of_ble_eq_true rfl) (And.intro (Nat.le_of_ble_eq_true rfl) (And.intro (Nat.le_of_ble_eq_true rfl) (And.intro rfl (And.intro rfl (And.intro v2 (And.intro (fun q1 => ?_) (fun q1 => ?_))))))))
    rotate_left
    · exact absurd (fun z => absurd (ek.symm.trans (show σ.2.2.1 r_kSort x2.toNatClampNeg = 2 from z)) (by decide)) q1
    · skip
      refine mjZ_y rfl rfl 6 _ _ _ _ ty ?_
      refine (And.intro rfl (And.intro rfl (And.intro v2 (And.intro (fun q2 => ?_) (fun q2 => ?_)))))
      rotate_left
      · exact absurd (fun z => absurd (ek.symm.trans (show σ.2.2.1 r_kSort x2.toNatClampNeg = 3 from z)) (by decide)) q2
      · skip
        refine mjZ_y rfl rfl 6 _ _ _ _ ty ?_
        refine (And.intro rfl (And.intro rfl (And.intro v2 (And.intro (fun q3 => ?_) (fun q3 => ?_)))))
        · exact absurd (show σ.2.2.1 r_kSort x2.toNatClampNeg = 4 from ek) q3
        · refine mjZ_y rfl rfl 2 _ _ _ _ ty ?_
          refine (And.intro (Nat.le_of_ble_eq_true rfl) ?_)
          refine mjZ_y rfl rfl 3 _ _ _ _ ty ?_
          refine And.intro (fun r1 => ?_) (fun r1 => ?_)
          · exact absurd (show (nI 78 : Int32) = nI 52 from r1) (by decide)
          · refine mjZ_y rfl rfl 3 _ _ _ _ ty ?_
            refine And.intro (fun r2 => ?_) (fun r2 => ?_)
            · exact absurd rfl r2
            · refine mjZ_y rfl rfl 4 _ _ _ _ ty ?_
              refine (And.intro (Nat.le_of_ble_eq_true rfl) (And.intro (Nat.le_of_ble_eq_true rfl) ?_))
              exact hK _ _ _ (by rw [hs]; rfl) (by rw [hs]; rfl) (by rw [hs]; rfl)
end REWR
