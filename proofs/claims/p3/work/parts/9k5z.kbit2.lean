/-! GETBIT. -/
section KBIT2
variable {Y : Nat → MethodName × ByteArray} {d : Nat} {σ0 σ u : kS} {B ws nm nm' : List (List Int32)} {ks : List KC}
theorem kx_byteAtS (ty : kTY σ) {P Q : List KC} {y : KC} (w : KWd σ0 B σ ws nm (P ++ y :: Q)) (hs : y.2.2.2.2.2.2.1 = 0) (x2 : Int32) : kjY kPP (kQQ Y) d 183 0 (mjL0 3 [.ref 67, .ref y.1, .int x2]) [] σ (fun r u => u = σ ∧ ∃ z : Int32, r = some (.int z)) := by
  obtain ⟨z1, z2, kv⟩ := w.tz hs
  by_cases c : x2 < 0
  · refine kjZ_y rfl rfl 4 _ _ _ _ ty ?_
    refine And.intro (fun c2 => ?_) (fun c2 => ?_)
    · refine kjZ_y rfl rfl 2 _ _ _ _ ty ?_
      refine kjZ_y rfl rfl 1 _ _ _ _ ty ?_
      refine And.intro rfl (And.intro (Or.inl rfl) ?_)
      exact ⟨rfl, _, rfl⟩
    · exact absurd c c2
  by_cases c2 : x2 < σ.1 y.1 6
  · obtain ⟨i, ei, hi⟩ := nat_of (n := y.2.2.2.2.2.2.2.2.2.1.length) (by omega) c (by rw [z1] at c2; exact c2)
    exact kjY_mono ty (fun r z _ _ h => ⟨h.1, _, h.2⟩) (kx_byteAt ty w hs (i := i) (by omega) x2 ei)
  · refine kjZ_y rfl rfl 4 _ _ _ _ ty ?_
    refine And.intro (fun c3 => ?_) (fun c3 => ?_)
    · exact absurd c3 c
    refine kjZ_y rfl rfl 4 _ _ _ _ ty ?_
    refine (And.intro (by assumption) (And.intro (fun c4 => ?_) (fun c4 => ?_)))
    · exact absurd c4 c2
    refine kjZ_y rfl rfl 2 _ _ _ _ ty ?_
    refine kjZ_y rfl rfl 1 _ _ _ _ ty ?_
    refine And.intro rfl (And.intro (Or.inl rfl) ?_)
    exact ⟨rfl, _, rfl⟩
theorem kx_getBit (ty : kTY σ) (w : KWd σ0 B σ ws nm ks) (hr : RSD ks) (hB : BOK B ws) {j : Nat} (hj : CMD σ j) {v a2 : List Int32} (hv : ws[1]? = some v) (h2 : ws[2]? = some a2) :
    kjY kPP (kQQ Y) (d + 7) 185 0 (mjL0 3 [.ref 67]) [] σ (cdP σ0 B σ ws nm ks none) := by
  have hlen := (List.getElem?_eq_some_iff.mp hv).1
  refine kjZ_y rfl rfl 4 _ _ _ _ ty ?_
  refine (And.intro (ty.k (by decide) rfl) (And.intro (Nat.le_of_ble_eq_true rfl) (And.intro (Or.inl ⟨(Nat.le_of_ble_eq_true rfl), (ty.k (by decide) rfl)⟩) (And.intro (Nat.le_of_ble_eq_true rfl) (And.intro (Nat.le_of_ble_eq_true rfl) (kjY_mono ty (fun q_ u0 ty0 xu0 h_ => ?_) (kx_lacksInteger ty w h2 _ rfl)))))))
  obtain ⟨w0, s0, q⟩ := h_
  intro _ _
  have hH := s0.sub scHB
  rcases q with ⟨n, q1, rfl, e9⟩ | ⟨q1, rfl⟩
  rotate_left
  · refine kjZ_y rfl rfl 1 _ _ _ _ ty0 ?_
    refine And.intro (fun c => ?_) (fun c => ?_)
    rotate_left
    · exact absurd (show ¬ (1 : Int32) = 0 by decide) c
    refine kjZ_y rfl rfl 1 _ _ _ _ ty0 ?_
    refine And.intro rfl (And.intro rfl ?_)
    exact cd_no PRE.rf w0 hr hH rfl
  refine kjZ_y rfl rfl 1 _ _ _ _ ty0 ?_
  refine And.intro (fun c => ?_) (fun c => ?_)
  · exact absurd rfl c
  refine kjZ_y rfl rfl 3 _ _ _ _ ty0 ?_
  refine (And.intro (Nat.le_of_ble_eq_true rfl) (And.intro (Or.inl ⟨(Nat.le_of_ble_eq_true rfl), (ty0.k (by decide) rfl)⟩) (And.intro (Nat.le_of_ble_eq_true rfl) (And.intro (Nat.le_of_ble_eq_true rfl) (kjY_mono ty0 (fun q_ ua tya xua h_ => ?_) (kx_lacksBit ty0 w0 true _ rfl))))))
  obtain ⟨wa, sa, q⟩ := h_
  intro _ _
  have hHa := hH.tr sa.h
  rcases q with ⟨rfl, q⟩ | ⟨rfl, q⟩
  rotate_left
  · refine kjZ_y rfl rfl 1 _ _ _ _ tya ?_
    refine And.intro (fun c => ?_) (fun c => ?_)
    rotate_left
    · exact absurd (show ¬ (1 : Int32) = 0 by decide) c
    refine kjZ_y rfl rfl 1 _ _ _ _ tya ?_
    refine And.intro rfl (And.intro rfl ?_)
    exact cd_no PRE.rf wa hr hHa rfl
  refine kjZ_y rfl rfl 1 _ _ _ _ tya ?_
  refine And.intro (fun c => ?_) (fun c => ?_)
  · exact absurd rfl c
  refine kjZ_y rfl rfl 6 _ _ _ _ tya ?_
  refine (And.intro (tya.k (by decide) rfl) (And.intro (Nat.le_of_ble_eq_true rfl) (And.intro (Or.inl ⟨(Nat.le_of_ble_eq_true rfl), (tya.k (by decide) rfl)⟩) (And.intro (Nat.le_of_ble_eq_true rfl) (And.intro (Nat.le_of_ble_eq_true rfl) (kjY_mono tya (fun q_ u1 ty1 xu1 h_ => ?_) (kx_refuses tya wa hB (hj.sc hHa) (a := 1) (b := 1) (by omega) (by omega) (s := 0) (by decide) _ _ _ rfl rfl rfl)))))))
  obtain ⟨nm1, p1, w1, s1, q⟩ := h_
  intro _ _
  rcases q with ⟨rfl, q⟩ | ⟨rfl, q⟩
  · refine kjZ_y rfl rfl 1 _ _ _ _ ty1 ?_
    refine And.intro (fun c => ?_) (fun c => ?_)
    · exact absurd (show (1 : Int32) = 0 from c) (by decide)
    refine kjZ_y rfl rfl 1 _ _ _ _ ty1 ?_
    refine And.intro rfl (And.intro rfl ?_)
    exact cd_no p1 w1 hr (hHa.tr s1.h) rfl
  refine kjZ_y rfl rfl 1 _ _ _ _ ty1 ?_
  refine And.intro (fun c => ?_) (fun c => ?_)
  rotate_left
  · exact absurd rfl c
  have hsof : ∀ P (y : KC) Q, ks = P ++ y :: Q → kyI (skA ks) v = some P.length → y.2.2.2.2.2.2.1 = 0 := by
    intro P y Q e0 e1
    rw [rf1 wa hv] at q
    subst e0
    exact so_1 (s := 0) e1 (fun z => q (Or.inr z))
  refine kjZ_y rfl rfl 16 _ _ _ _ ty1 ?_
  refine (And.intro (ty1.k (by decide) rfl) (And.intro (ty1.k (by decide) rfl) (And.intro (by decide) (And.intro (Nat.le_of_ble_eq_true rfl) (And.intro (ty1.k (by decide) rfl) (And.intro (ty1.k (by decide) rfl) (And.intro (Nat.le_of_ble_eq_true rfl) (And.intro (Or.inl ⟨(Nat.le_of_ble_eq_true rfl), (ty1.k (by decide) rfl)⟩) (And.intro (Nat.le_of_ble_eq_true rfl) (And.intro (Nat.le_of_ble_eq_true rfl) (kjY_mono ty1 (fun q_ u2 ty2 xu2 h_ => ?_) (kx_id ty1 w1 hB hv _ rfl))))))))))))
  obtain ⟨k, nm2, rfl, p2, p3, w2, s2⟩ := h_
  intro _ _
  refine kjZ_y rfl rfl 1 _ _ _ _ ty2 ?_
  refine (And.intro (Nat.le_of_ble_eq_true rfl) (And.intro (Or.inl ⟨(Nat.le_of_ble_eq_true rfl), (ty2.k (by decide) rfl)⟩) (And.intro (Nat.le_of_ble_eq_true rfl) (And.intro (Nat.le_of_ble_eq_true rfl) (kjY_mono ty2 (fun q_ u3 ty3 xu3 h_ => ?_) (kx_find ty2 w2 p2 _ rfl))))))
  obtain ⟨rfl, q3⟩ := h_
  intro _ _
  have sH := hHa.tr (s1.tr s2).h
  obtain ⟨b, hb, eb⟩ := w2.2.2.2.2.2.2.1
  have kb := ob_k ty3 (ANn_b b (ANb_n b hb)).1
  have fin : ∀ (x1 x2 : Int32), kjY kPP (kQQ Y) (d + 7) 185 41 [some (.ref 67), some (.int x1), none] [.int x2] u3 (cdP σ0 B σ ws nm ks none) := by
    intro x1 x2
    have go : ∀ n : Int64, kjY kPP (kQQ Y) (d + 7) 185 52 [some (.ref 67), some (.int x1), some (.int x2)] [.long n, .ref b] u3 (cdP σ0 B σ ws nm ks none) := by
      intro n
      refine kjZ_y rfl rfl 1 _ _ _ _ ty3 ?_
      refine (And.intro (Nat.le_of_ble_eq_true rfl) (And.intro (Or.inl ⟨(Nat.le_of_ble_eq_true rfl), (by assumption)⟩) (And.intro (Nat.le_of_ble_eq_true rfl) (And.intro (Nat.le_of_ble_eq_true rfl) (kjY_mono ty3 (fun q_ u4 ty4 xu4 h_ => ?_) (kx_number ty3 w2 hb _))))))
      obtain ⟨rfl, w4, s4⟩ := h_
      intro _ _
      refine kjZ_y rfl rfl 1 _ _ _ _ ty4 ?_
      refine And.intro rfl (And.intro rfl ?_)
      exact cd_no (p1.tr p3) w4 hr (sH.tr s4.h) rfl
    refine kjZ_y rfl rfl 8 _ _ _ _ ty3 ?_
    refine (And.intro (Nat.le_of_ble_eq_true rfl) (And.intro (ty3.k (by decide) rfl) (And.intro (ty3.k (by decide) rfl) (Exists.intro _ (And.intro eb (And.intro (fun c5 => ?_) (fun c5 => ?_)))))))
    · refine kjZ_y rfl rfl 1 _ _ _ _ ty3 ?_
      exact go _
    · refine kjZ_y rfl rfl 2 _ _ _ _ ty3 ?_
      exact go _
  rcases q3 with ⟨rfl, q3⟩ | ⟨P, y, Q, rfl, f0, f1, f2⟩
  · refine kjZ_y rfl rfl 7 _ _ _ _ ty3 ?_
    refine (And.intro (ty3.k (by decide) rfl) (And.intro (ty3.k (by decide) rfl) (And.intro (by decide) (And.intro (Nat.le_of_ble_eq_true rfl) (And.intro (Or.inl ⟨(Nat.le_of_ble_eq_true rfl), (ty3.k (by decide) rfl)⟩) (And.intro (Nat.le_of_ble_eq_true rfl) (And.intro (Nat.le_of_ble_eq_true rfl) (kjY_mono ty3 (fun q_ u4 ty4 xu4 h_ => ?_) (kx_byteAt0 ty3 _)))))))))
    obtain ⟨rfl, rfl⟩ := h_
    intro _ _
    exact fin _ _
  · have hs0 := hsof P y Q f0 f2
    subst f0
    have kv := (w2.tz hs0).2.2
    refine kjZ_y rfl rfl 7 _ _ _ _ ty3 ?_
    refine (And.intro (ty3.k (by decide) rfl) (And.intro (ty3.k (by decide) rfl) (And.intro (by decide) (And.intro (Nat.le_of_ble_eq_true rfl) (And.intro (Or.inl ⟨(Nat.le_of_ble_eq_true rfl), (ty3.k (by decide) rfl)⟩) (And.intro (Nat.le_of_ble_eq_true rfl) (And.intro (Nat.le_of_ble_eq_true rfl) (kjY_mono ty3 (fun q_ u4 ty4 xu4 h_ => ?_) (kx_byteAtS ty3 w2 hs0 _)))))))))
    obtain ⟨rfl, zz, rfl⟩ := h_
    intro _ _
    exact fin _ _
end KBIT2
