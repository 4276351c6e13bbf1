/-! TYPE, DBSIZE: their roads. -/
section KROADS2
variable {Y : Nat → MethodName × ByteArray} {d : Nat} {σ0 σ u : kS} {B ws nm nm' : List (List Int32)} {ks : List KC}
theorem kr_dbsize (ty : kTY σ) (w : KWd σ0 B σ ws nm ks) (hr : RSD ks) : kjY kPP (kQQ Y) (d + 9) 150 0 (mjL0 2 [.ref 59, .ref (1000000 + 2)]) [] σ (cdP σ0 B σ ws nm ks none) := by
  have kj : kCm (1000000 + 2) := ⟨2, by decide, rfl⟩
  refine kd_150 ty (j := 2) (n := 32) (by decide) (by decide) ?_
  obtain ⟨b, hb, eb⟩ := w.2.2.2.2.2.2.1
  have kb := ob_k ty (ANn_b b (ANb_n b hb)).1
  refine kjZ_y rfl rfl 7 _ _ _ _ ty ?_
  refine (And.intro (ty.k (by decide) rfl) (And.intro (ty.k (by decide) rfl) (Exists.intro _ (And.intro eb (And.intro (ty.k (by decide) rfl) (And.intro (Nat.le_of_ble_eq_true rfl) (And.intro (Or.inl ⟨(Nat.le_of_ble_eq_true rfl), (by assumption)⟩) (And.intro (Nat.le_of_ble_eq_true rfl) (And.intro (Nat.le_of_ble_eq_true rfl) (kjY_mono ty (fun q_ u1 ty1 xu1 h_ => ?_) (kx_number ty w hb _)))))))))))
  obtain ⟨rfl, w1, s1⟩ := h_
  intro _ _
  refine kjZ_y rfl rfl 2 _ _ _ _ ty1 ?_
  refine And.intro rfl (And.intro rfl ?_)
  exact cd_no PRE.rf w1 hr s1.h rfl
end KROADS2
