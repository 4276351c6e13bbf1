/-! ZRANGE .. ZCOUNT. -/
section KZREAD
variable {Y : Nat → MethodName × ByteArray} {d : Nat} {σ0 σ u : kS} {B ws nm nm' : List (List Int32)} {ks : List KC}
theorem kx_zcount (ty : kTY σ) (w : KWd σ0 B σ ws nm ks) (hr : RSD ks) (hB : BOK B ws) {j : Nat} (hj : CMD σ j) {v a2 a3 : List Int32} (hv : ws[1]? = some v) (h2 : ws[2]? = some a2) (h3 : ws[3]? = some a3) (hS : ∀ x ∈ ks, x.2.2.2.2.2.2.1 = 4 → ZP x.2.2.2.2.2.2.2.2.2.2) :
    kjY kPP (kQQ Y) (d + 9) 253 0 (mjL0 2 [.ref 75]) [] σ (cdP σ0 B σ ws nm ks none) := by
  have hlen := (List.getElem?_eq_some_iff.mp hv).1
  refine kjZ_y rfl rfl 2 _ _ _ _ ty ?_
  refine (And.intro (Nat.le_of_ble_eq_true rfl) (And.intro (Or.inl ⟨(Nat.le_of_ble_eq_true rfl), (ty.k (by decide) rfl)⟩) (And.intro (Nat.le_of_ble_eq_true rfl) (And.intro (Nat.le_of_ble_eq_true rfl) (kjY_mono ty (fun q_ u0 ty0 xu0 h_ => ?_) (kx_lacksBounds (d := d) ty w h2 h3))))))
  obtain ⟨w0, s0, q⟩ := h_
  intro _ _
  have hH := s0.sub scHZ
  rcases q with ⟨rfl, q1, q2⟩ | ⟨rfl, q1⟩
  rotate_left
  · refine kjZ_y rfl rfl 1 _ _ _ _ ty0 ?_
    refine And.intro (fun c => ?_) (fun c => ?_)
    rotate_left
    · exact absurd (show ¬ (1 : Int32) = 0 by decide) c
    refine kjZ_y rfl rfl 1 _ _ _ _ ty0 ?_
    refine And.intro rfl (And.intro rfl ?_)
    exact cd_no PRE.rf w0 hr hH rfl
  refine kjZ_y rfl rfl 1 _ _ _ _ ty0 ?_
  refine And.intro (fun c => ?_) (fun c => ?_)
  · exact absurd rfl c
  refine kjZ_y rfl rfl 6 _ _ _ _ ty0 ?_
  refine (And.intro (ty0.k (by decide) rfl) (And.intro (Nat.le_of_ble_eq_true rfl) (And.intro (Or.inl ⟨(Nat.le_of_ble_eq_true rfl), (ty0.k (by decide) rfl)⟩) (And.intro (Nat.le_of_ble_eq_true rfl) (And.intro (Nat.le_of_ble_eq_true rfl) (kjY_mono ty0 (fun q_ u1 ty1 xu1 h_ => ?_) (kx_refuses ty0 w0 hB (hj.sc hH) (a := 1) (b := 1) (by omega) (by omega) (s := 4) (by decide) _ _ _ rfl rfl rfl)))))))
  obtain ⟨nm1, p1, w1, s1, q⟩ := h_
  intro _ _
  rw [rf1 w0 hv, (hH (59, 17) (by decide)).1] at q
  rcases q with ⟨rfl, q⟩ | ⟨rfl, q⟩
  · refine kjZ_y rfl rfl 1 _ _ _ _ ty1 ?_
    refine And.intro (fun c => ?_) (fun c => ?_)
    · exact absurd (show (1 : Int32) = 0 from c) (by decide)
    refine kjZ_y rfl rfl 1 _ _ _ _ ty1 ?_
    refine And.intro rfl (And.intro rfl ?_)
    exact cd_no p1 w1 hr (hH.tr s1.h) rfl
  have hso := fun z => q (Or.inr z)
  refine kjZ_y rfl rfl 1 _ _ _ _ ty1 ?_
  refine And.intro (fun c => ?_) (fun c => ?_)
  rotate_left
  · exact absurd rfl c
  refine kjZ_y rfl rfl 6 _ _ _ _ ty1 ?_
  refine (And.intro (ty1.k (by decide) rfl) (And.intro (ty1.k (by decide) rfl) (And.intro (Nat.le_of_ble_eq_true rfl) (And.intro (Or.inl ⟨(Nat.le_of_ble_eq_true rfl), (ty1.k (by decide) rfl)⟩) (And.intro (Nat.le_of_ble_eq_true rfl) (And.intro (Nat.le_of_ble_eq_true rfl) (kjY_mono ty1 (fun q_ u2 ty2 xu2 h_ => ?_) (kx_id ty1 w1 hB hv _ rfl))))))))
  obtain ⟨k, nm2, rfl, p2, p3, w2, s2⟩ := h_
  intro _ _
  refine kjZ_y rfl rfl 1 _ _ _ _ ty2 ?_
  refine (And.intro (Nat.le_of_ble_eq_true rfl) (And.intro (Or.inl ⟨(Nat.le_of_ble_eq_true rfl), (ty2.k (by decide) rfl)⟩) (And.intro (Nat.le_of_ble_eq_true rfl) (And.intro (Nat.le_of_ble_eq_true rfl) (kjY_mono ty2 (fun q_ u3 ty3 xu3 h_ => ?_) (kx_find ty2 w2 p2 _ rfl))))))
  obtain ⟨rfl, q3⟩ := h_
  intro _ _
  have sH := hH.tr (s1.tr s2).h
  have pA := p1.tr p3
  obtain ⟨b, hb, eb⟩ := w2.2.2.2.2.2.2.1
  have kb := ob_k ty3 (ANn_b b (ANb_n b hb)).1
  rcases q3 with ⟨rfl, q3⟩ | ⟨P, y, Q, rfl, f0, f1, f2⟩
  · refine kjZ_y rfl rfl 9 _ _ _ _ ty3 ?_
    refine (And.intro (Nat.le_of_ble_eq_true rfl) (And.intro (ty3.k (by decide) rfl) (And.intro (ty3.k (by decide) rfl) (Exists.intro _ (And.intro eb (And.intro (Nat.le_of_ble_eq_true rfl) (And.intro (Or.inl ⟨(Nat.le_of_ble_eq_true rfl), (ty3.k (by decide) rfl)⟩) (And.intro (Nat.le_of_ble_eq_true rfl) (And.intro (Nat.le_of_ble_eq_true rfl) (kjY_mono ty3 (fun q_ u4 ty4 xu4 h_ => ?_) (kx_edge0 (d := d) ty3 w2 h3 _ _ rfl)))))))))))
    obtain ⟨w4, s4, rfl⟩ := h_
    intro _ _
    have kb4 := ob_k ty4 (ANn_b b (ANb_n b hb)).1
    refine kjZ_y rfl rfl 5 _ _ _ _ ty4 ?_
    refine (And.intro (Nat.le_of_ble_eq_true rfl) (And.intro (Or.inl ⟨(Nat.le_of_ble_eq_true rfl), (ty4.k (by decide) rfl)⟩) (And.intro (Nat.le_of_ble_eq_true rfl) (And.intro (Nat.le_of_ble_eq_true rfl) (kjY_mono ty4 (fun q_ u5 ty5 xu5 h_ => ?_) (kx_edge0 (d := d) ty4 w4 h2 _ _ rfl))))))
    obtain ⟨w5, s5, rfl⟩ := h_
    intro _ _
    have kb5 := ob_k ty5 (ANn_b b (ANb_n b hb)).1
    refine kjZ_y rfl rfl 3 _ _ _ _ ty5 ?_
    refine (And.intro (Nat.le_of_ble_eq_true rfl) (And.intro (Nat.le_of_ble_eq_true rfl) (And.intro (Nat.le_of_ble_eq_true rfl) (kjY_mono ty5 (fun q_ u6 ty6 xu6 h_ => ?_) (k_max ty5 _ _)))))
    obtain ⟨rfl, rfl⟩ := h_
    intro _ _
    refine kjZ_y rfl rfl 2 _ _ _ _ ty6 ?_
    refine (And.intro (Nat.le_of_ble_eq_true rfl) (And.intro (Or.inl ⟨(Nat.le_of_ble_eq_true rfl), (by assumption)⟩) (And.intro (Nat.le_of_ble_eq_true rfl) (And.intro (Nat.le_of_ble_eq_true rfl) (kjY_mono ty6 (fun q_ u7 ty7 xu7 h_ => ?_) (kx_number ty6 w5 hb _))))))
    obtain ⟨rfl, w7, s7⟩ := h_
    intro _ _
    refine kjZ_y rfl rfl 1 _ _ _ _ ty7 ?_
    refine And.intro rfl (And.intro rfl ?_)
    exact cd_no pA w7 hr ((sH.tr ((s4.tr s5).sub scHZ)).tr s7.h) rfl
  · subst f0
    have hs4 : y.2.2.2.2.2.2.1 = 4 := so_1 (s := 4) f2 hso
    have hs0 : ¬ y.2.2.2.2.2.2.1 = 0 := by rw [hs4]; decide
    obtain ⟨z1, z2, kv⟩ := w2.sz hs0
    have hZ := hS y (List.mem_append_right _ List.mem_cons_self) hs4
    refine kjZ_y rfl rfl 9 _ _ _ _ ty3 ?_
    refine (And.intro (Nat.le_of_ble_eq_true rfl) (And.intro (ty3.k (by decide) rfl) (And.intro (ty3.k (by decide) rfl) (Exists.intro _ (And.intro eb (And.intro (Nat.le_of_ble_eq_true rfl) (And.intro (Or.inl ⟨(Nat.le_of_ble_eq_true rfl), (ty3.k (by decide) rfl)⟩) (And.intro (Nat.le_of_ble_eq_true rfl) (And.intro (Nat.le_of_ble_eq_true rfl) (kjY_mono ty3 (fun q_ u4 ty4 xu4 h_ => ?_) (kx_edge (d := d) ty3 w2 hs4 hZ h3 true _ _ rfl rfl)))))))))))
    obtain ⟨w4, s4, hi, rfl, -⟩ := h_
    intro _ _
    have kv4 := (w4.sz hs0).2.2
    have kb4 := ob_k ty4 (ANn_b b (ANb_n b hb)).1
    refine kjZ_y rfl rfl 5 _ _ _ _ ty4 ?_
    refine (And.intro (Nat.le_of_ble_eq_true rfl) (And.intro (Or.inl ⟨(Nat.le_of_ble_eq_true rfl), (ty4.k (by decide) rfl)⟩) (And.intro (Nat.le_of_ble_eq_true rfl) (And.intro (Nat.le_of_ble_eq_true rfl) (kjY_mono ty4 (fun q_ u5 ty5 xu5 h_ => ?_) (kx_edge (d := d) ty4 w4 hs4 hZ h2 false _ _ rfl rfl))))))
    obtain ⟨w5, s5, lo, rfl, -⟩ := h_
    intro _ _
    have kv5 := (w5.sz hs0).2.2
    have kb5 := ob_k ty5 (ANn_b b (ANb_n b hb)).1
    refine kjZ_y rfl rfl 3 _ _ _ _ ty5 ?_
    refine (And.intro (Nat.le_of_ble_eq_true rfl) (And.intro (Nat.le_of_ble_eq_true rfl) (And.intro (Nat.le_of_ble_eq_true rfl) (kjY_mono ty5 (fun q_ u6 ty6 xu6 h_ => ?_) (k_max ty5 _ _)))))
    obtain ⟨rfl, rfl⟩ := h_
    intro _ _
    refine kjZ_y rfl rfl 2 _ _ _ _ ty6 ?_
    refine (And.intro (Nat.le_of_ble_eq_true rfl) (And.intro (Or.inl ⟨(Nat.le_of_ble_eq_true rfl), (by assumption)⟩) (And.intro (Nat.le_of_ble_eq_true rfl) (And.intro (Nat.le_of_ble_eq_true rfl) (kjY_mono ty6 (fun q_ u7 ty7 xu7 h_ => ?_) (kx_number ty6 w5 hb _))))))
    obtain ⟨rfl, w7, s7⟩ := h_
    intro _ _
    refine kjZ_y rfl rfl 1 _ _ _ _ ty7 ?_
    refine And.intro rfl (And.intro rfl ?_)
    exact cd_no pA w7 hr ((sH.tr ((s4.tr s5).sub scHZ)).tr s7.h) rfl
theorem kx_zrange (ty : kTY σ) (w : KWd σ0 B σ ws nm ks) (hr : RSD ks) (hB : BOK B ws) {j : Nat} (hj : CMD σ j) {v a2 a3 : List Int32} (hv : ws[1]? = some v) (h2 : ws[2]? = some a2) (h3 : ws[3]? = some a3) (x1 : Int32) :
    kjY kPP (kQQ Y) (d + 8) 247 0 (mjL0 4 [.ref 75, .int x1]) [] σ (cdP σ0 B σ ws nm ks none) := by
  have hlen := (List.getElem?_eq_some_iff.mp hv).1
  have body : ∀ z, kTY z → KWd σ0 B z ws nm ks → SCl scH σ z → kjY kPP (kQQ Y) (d + 8) 247 29 [some (.ref 75), some (.int x1), none, none] [] z (cdP σ0 B σ ws nm ks none) := by
    intro z tz wz sz
    refine kjZ_y rfl rfl 4 _ _ _ _ tz ?_
    refine (And.intro (tz.k (by decide) rfl) (And.intro (Nat.le_of_ble_eq_true rfl) (And.intro (Or.inl ⟨(Nat.le_of_ble_eq_true rfl), (tz.k (by decide) rfl)⟩) (And.intro (Nat.le_of_ble_eq_true rfl) (And.intro (Nat.le_of_ble_eq_true rfl) (kjY_mono tz (fun q_ u0 ty0 xu0 h_ => ?_) (kx_lacksSpan tz wz h2 h3 _ rfl)))))))
    obtain ⟨w0, s0, q⟩ := h_
    intro _ _
    have hH := sz.tr (s0.sub scHC)
    rcases q with ⟨a, b, q1, rfl, e10, e9⟩ | ⟨q1, rfl⟩
    rotate_left
    · refine kjZ_y rfl rfl 1 _ _ _ _ ty0 ?_
      refine And.intro (fun c => ?_) (fun c => ?_)
      rotate_left
      · exact absurd (show ¬ (1 : Int32) = 0 by decide) c
      refine kjZ_y rfl rfl 1 _ _ _ _ ty0 ?_
      refine And.intro rfl (And.intro rfl ?_)
      exact cd_no PRE.rf w0 hr hH rfl
    refine kjZ_y rfl rfl 1 _ _ _ _ ty0 ?_
    refine And.intro (fun c => ?_) (fun c => ?_)
    · exact absurd rfl c
    refine kjZ_y rfl rfl 6 _ _ _ _ ty0 ?_
    refine (And.intro (ty0.k (by decide) rfl) (And.intro (Nat.le_of_ble_eq_true rfl) (And.intro (Or.inl ⟨(Nat.le_of_ble_eq_true rfl), (ty0.k (by decide) rfl)⟩) (And.intro (Nat.le_of_ble_eq_true rfl) (And.intro (Nat.le_of_ble_eq_true rfl) (kjY_mono ty0 (fun q_ u1 ty1 xu1 h_ => ?_) (kx_refuses ty0 w0 hB (hj.sc hH) (a := 1) (b := 1) (by omega) (by omega) (s := 4) (by decide) _ _ _ rfl rfl rfl)))))))
    obtain ⟨nm1, p1, w1, s1, q⟩ := h_
    intro _ _
    rw [rf1 w0 hv, (hH (59, 17) (by decide)).1] at q
    rcases q with ⟨rfl, q⟩ | ⟨rfl, q⟩
    · refine kjZ_y rfl rfl 1 _ _ _ _ ty1 ?_
      refine And.intro (fun c => ?_) (fun c => ?_)
      · exact absurd (show (1 : Int32) = 0 from c) (by decide)
      refine kjZ_y rfl rfl 1 _ _ _ _ ty1 ?_
      refine And.intro rfl (And.intro rfl ?_)
      exact cd_no p1 w1 hr (hH.tr s1.h) rfl
    have hso := fun z => q (Or.inr z)
    refine kjZ_y rfl rfl 1 _ _ _ _ ty1 ?_
    refine And.intro (fun c => ?_) (fun c => ?_)
    rotate_left
    · exact absurd rfl c
    refine kjZ_y rfl rfl 6 _ _ _ _ ty1 ?_
    refine (And.intro (ty1.k (by decide) rfl) (And.intro (ty1.k (by decide) rfl) (And.intro (Nat.le_of_ble_eq_true rfl) (And.intro (Or.inl ⟨(Nat.le_of_ble_eq_true rfl), (ty1.k (by decide) rfl)⟩) (And.intro (Nat.le_of_ble_eq_true rfl) (And.intro (Nat.le_of_ble_eq_true rfl) (kjY_mono ty1 (fun q_ u2 ty2 xu2 h_ => ?_) (kx_id ty1 w1 hB hv _ rfl))))))))
    obtain ⟨k, nm2, rfl, p2, p3, w2, s2⟩ := h_
    intro _ _
    refine kjZ_y rfl rfl 1 _ _ _ _ ty2 ?_
    refine (And.intro (Nat.le_of_ble_eq_true rfl) (And.intro (Or.inl ⟨(Nat.le_of_ble_eq_true rfl), (ty2.k (by decide) rfl)⟩) (And.intro (Nat.le_of_ble_eq_true rfl) (And.intro (Nat.le_of_ble_eq_true rfl) (kjY_mono ty2 (fun q_ u3 ty3 xu3 h_ => ?_) (kx_find ty2 w2 p2 _ rfl))))))
    obtain ⟨rfl, q3⟩ := h_
    intro _ _
    have sH := hH.tr (s1.tr s2).h
    have pA := p1.tr p3
    rcases q3 with ⟨rfl, q3⟩ | ⟨P, y, Q, rfl, f0, f1, f2⟩
    · refine kjZ_y rfl rfl 10 _ _ _ _ ty3 ?_
      refine (And.intro (Nat.le_of_ble_eq_true rfl) (And.intro (Nat.le_of_ble_eq_true rfl) (And.intro (ty3.k (by decide) rfl) (And.intro (Nat.le_of_ble_eq_true rfl) (And.intro (Or.inl ⟨(Nat.le_of_ble_eq_true rfl), (ty3.k (by decide) rfl)⟩) (And.intro (Nat.le_of_ble_eq_true rfl) (And.intro (Nat.le_of_ble_eq_true rfl) (kjY_mono ty3 (fun q_ u4 ty4 xu4 h_ => ?_) (kx_cutSpan ty3 w2 (n := 0) (by decide) _ rfl)))))))))
      obtain ⟨rfl, w4, s4, lo, hi, t1, t2, t3, t4, -⟩ := h_
      intro _ _
      have go : ∀ x : Int32, kjY kPP (kQQ Y) (d + 8) 247 76 [some (.ref 75), some (.int x1), some .null, some (.int (Int32.ofInt 0))] [.int x, .null, .ref 75] u4 (cdP σ0 B σ ws nm ks none) := by
        intro x
        refine kjZ_y rfl rfl 9 _ _ _ _ ty4 ?_
        refine (And.intro (ty4.k (by decide) rfl) (And.intro (ty4.k (by decide) rfl) (And.intro (ty4.k (by decide) rfl) (And.intro (ty4.k (by decide) rfl) (And.intro (Nat.le_of_ble_eq_true rfl) (And.intro (Or.inl ⟨(Nat.le_of_ble_eq_true rfl), (ty4.k (by decide) rfl)⟩) (And.intro (Nat.le_of_ble_eq_true rfl) (And.intro (Nat.le_of_ble_eq_true rfl) (kjY_mono ty4 (fun q_ u5 ty5 xu5 h_ => ?_) (kx_tellLine0 (d := d) ty4 w4 _ _ _))))))))))
        obtain ⟨rfl, w5, s5⟩ := h_
        intro _ _
        refine kjZ_y rfl rfl 1 _ _ _ _ ty5 ?_
        refine And.intro rfl (And.intro rfl ?_)
        exact cd_no pA w5 hr ((sH.tr (s4.sub scHD)).tr s5.h) rfl
      refine kjZ_y rfl rfl 4 _ _ _ _ ty4 ?_
      refine And.intro (fun c4 => ?_) (fun c4 => ?_)
      · refine kjZ_y rfl rfl 3 _ _ _ _ ty4 ?_
        refine (And.intro (ty4.k (by decide) rfl) (And.intro (ty4.k (by decide) rfl) ?_))
        exact go _
      · refine kjZ_y rfl rfl 8 _ _ _ _ ty4 ?_
        refine (And.intro (ty4.k (by decide) rfl) (And.intro (ty4.k (by decide) rfl) ?_))
        exact go _
    · subst f0
      have hs4 : y.2.2.2.2.2.2.1 = 4 := so_1 (s := 4) f2 hso
      have hs0 : ¬ y.2.2.2.2.2.2.1 = 0 := by rw [hs4]; decide
      obtain ⟨z1, z2, kv⟩ := w2.sz hs0
      have s57 : ∀ x3 : Int32, x3 = u3.1 y.1 6 → kjY kPP (kQQ Y) (d + 8) 247 57 [some (.ref 75), some (.int x1), some (.ref y.1), some (.int x3)] [] u3 (cdP σ0 B σ ws nm (P ++ y :: Q) none) := by
        intro x3 e3
        have e3 := e3.trans z1
        refine kjZ_y rfl rfl 4 _ _ _ _ ty3 ?_
        refine (And.intro (ty3.k (by decide) rfl) (And.intro (Nat.le_of_ble_eq_true rfl) (And.intro (Or.inl ⟨(Nat.le_of_ble_eq_true rfl), (ty3.k (by decide) rfl)⟩) (And.intro (Nat.le_of_ble_eq_true rfl) (And.intro (Nat.le_of_ble_eq_true rfl) (kjY_mono ty3 (fun q_ u4 ty4 xu4 h_ => ?_) (kx_cutSpan ty3 w2 (n := y.2.2.2.2.2.2.2.2.2.2.length) (by omega) _ e3)))))))
        obtain ⟨rfl, w4, s4, lo, hi, t1, t2, t3, t4, -⟩ := h_
        intro _ _
        have kv4 := (w4.sz hs0).2.2
        have go : ∀ x : Int32, kjY kPP (kQQ Y) (d + 8) 247 76 [some (.ref 75), some (.int x1), some (.ref y.1), some (.int x3)] [.int x, .ref y.1, .ref 75] u4 (cdP σ0 B σ ws nm (P ++ y :: Q) none) := by
          intro x
          refine kjZ_y rfl rfl 9 _ _ _ _ ty4 ?_
          refine (And.intro (ty4.k (by decide) rfl) (And.intro (ty4.k (by decide) rfl) (And.intro (ty4.k (by decide) rfl) (And.intro (ty4.k (by decide) rfl) (And.intro (Nat.le_of_ble_eq_true rfl) (And.intro (Or.inl ⟨(Nat.le_of_ble_eq_true rfl), (ty4.k (by decide) rfl)⟩) (And.intro (Nat.le_of_ble_eq_true rfl) (And.intro (Nat.le_of_ble_eq_true rfl) (kjY_mono ty4 (fun q_ u5 ty5 xu5 h_ => ?_) (kx_tellLinA (d := d) ty4 w4 hs0 _ _ _))))))))))
          obtain ⟨rfl, w5, s5⟩ := h_
          intro _ _
          refine kjZ_y rfl rfl 1 _ _ _ _ ty5 ?_
          refine And.intro rfl (And.intro rfl ?_)
          exact cd_no pA w5 hr ((sH.tr (s4.sub scHD)).tr s5.h) rfl
        refine kjZ_y rfl rfl 4 _ _ _ _ ty4 ?_
        refine And.intro (fun c4 => ?_) (fun c4 => ?_)
        · refine kjZ_y rfl rfl 3 _ _ _ _ ty4 ?_
          refine (And.intro (ty4.k (by decide) rfl) (And.intro (ty4.k (by decide) rfl) ?_))
          exact go _
        · refine kjZ_y rfl rfl 8 _ _ _ _ ty4 ?_
          refine (And.intro (ty4.k (by decide) rfl) (And.intro (ty4.k (by decide) rfl) ?_))
          exact go _
      refine kjZ_y rfl rfl 6 _ _ _ _ ty3 ?_
      refine (And.intro (Nat.le_of_ble_eq_true rfl) (And.intro (by assumption) (And.intro (Nat.le_of_ble_eq_true rfl) ?_)))
      exact s57 _ rfl
  have s15 : ∀ x : Int32, (x = 0 ∨ x = 1) → kjY kPP (kQQ Y) (d + 8) 247 15 [some (.ref 75), some (.int x1), none, none] [.int x, .ref 75] σ (cdP σ0 B σ ws nm ks none) := by
    intro x hx
    refine kjZ_y rfl rfl 1 _ _ _ _ ty ?_
    refine (And.intro (ty.k (by decide) rfl) (And.intro (Or.inr ⟨rfl, hx⟩) (fun ty' => ?_)))
    have go : ∀ z, kTY z → z = (mjIu σ.1 75 5 x, σ.2) → kjY kPP (kQQ Y) (d + 8) 247 16 [some (.ref 75), some (.int x1), none, none] [] z (cdP σ0 B σ ws nm ks none) := by
      intro z tz ez
      have wz : KWd σ0 B z ws nm ks := by rw [ez]; exact w.pi ty (by decide)
      have sz : SCl scH σ z := by rw [ez]; exact SCl.i (by decide +kernel)
      refine kjZ_y rfl rfl 5 _ _ _ _ tz ?_
      refine (And.intro (tz.k (by decide) rfl) (And.intro (tz.k (by decide) rfl) (And.intro (fun c => ?_) (fun c => ?_))))
      · exact body z tz wz sz
      refine kjZ_y rfl rfl 3 _ _ _ _ tz ?_
      refine (And.intro (tz.k (by decide) rfl) (And.intro (fun c2 => ?_) (fun c2 => ?_)))
      · exact body z tz wz sz
      refine kjZ_y rfl rfl 4 _ _ _ _ tz ?_
      refine (And.intro (tz.k (by decide) rfl) (And.intro rfl (And.intro (Nat.le_of_ble_eq_true rfl) (And.intro (Or.inl ⟨(Nat.le_of_ble_eq_true rfl), (tz.k (by decide) rfl)⟩) (And.intro (Nat.le_of_ble_eq_true rfl) (And.intro (Nat.le_of_ble_eq_true rfl) (kjY_mono tz (fun q_ u1 ty1 xu1 h_ => ?_) (kx_refuse tz wz (i := 160) (by decide)))))))))
      obtain ⟨rfl, w1, s1⟩ := h_
      intro _ _
      refine kjZ_y rfl rfl 1 _ _ _ _ ty1 ?_
      refine And.intro rfl (And.intro rfl ?_)
      exact cd_no PRE.rf w1 hr (sz.tr s1.h) rfl
    exact go _ ty' rfl
  refine kjZ_y rfl rfl 6 _ _ _ _ ty ?_
  refine (And.intro (ty.k (by decide) rfl) (And.intro (ty.k (by decide) rfl) (And.intro (fun c => ?_) (fun c => ?_))))
  · refine kjZ_y rfl rfl 1 _ _ _ _ ty ?_
    exact s15 _ (Or.inl rfl)
  refine kjZ_y rfl rfl 5 _ _ _ _ ty ?_
  refine (And.intro (ty.k (by decide) rfl) (And.intro rfl (And.intro (Nat.le_of_ble_eq_true rfl) (And.intro (Or.inl ⟨(Nat.le_of_ble_eq_true rfl), (ty.k (by decide) rfl)⟩) (And.intro (Nat.le_of_ble_eq_true rfl) (And.intro (Nat.le_of_ble_eq_true rfl) (kjY_mono ty (fun q_ u1 ty1 xu1 h_ => ?_) (kx_is ty w (i := 161) (by decide) 4 (by decide) _ rfl))))))))
  obtain ⟨rfl, q1⟩ := h_
  intro _ _
  rcases q1 with ⟨rfl, q1⟩ | ⟨rfl, q1⟩
  · refine kjZ_y rfl rfl 1 _ _ _ _ ty1 ?_
    refine And.intro (fun c2 => ?_) (fun c2 => ?_)
    · exact absurd (show (1 : Int32) = 0 from c2) (by decide)
    refine kjZ_y rfl rfl 2 _ _ _ _ ty1 ?_
    exact s15 _ (Or.inr rfl)
  · refine kjZ_y rfl rfl 1 _ _ _ _ ty1 ?_
    refine And.intro (fun c2 => ?_) (fun c2 => ?_)
    rotate_left
    · exact absurd rfl c2
    refine kjZ_y rfl rfl 1 _ _ _ _ ty1 ?_
    exact s15 _ (Or.inl rfl)
def scY : List (Nat × Nat) := [(53, 8), (53, 9), (53, 10), (53, 11), (53, 12), (53, 13), (53, 14), (53, 15), (53, 16), (59, 16), (59, 17), (59, 18), (75, 3), (75, 4)]
theorem scHY : ∀ p ∈ scH, p ∈ scY := by decide +kernel
/-- the words behind the bounds -/
def soK (σ0 : kS) (B : List (List Int32)) (σ : kS) (ws nm : List (List Int32)) (ks : List KC) : kK := fun r u => KWd σ0 B u ws nm ks ∧ SCl scY σ u ∧ (r = some (.int 0) ∨ (r = some (.int 1) ∧ (u.1 75 6 = 0 ∨ ∃ i, u.1 75 6 = nI i ∧ 1 ≤ i ∧ i + 1 < ws.length)))
theorem k_rso_l : ∀ (f i : Nat) (x1 : Int32) (u : kS), ws.length ≤ i + f → 4 ≤ i → i ≤ ws.length → x1 = nI i → kTY u → KWd σ0 B u ws nm ks → SCl scY σ u → (u.1 75 6 = 0 ∨ ∃ i, u.1 75 6 = nI i ∧ 1 ≤ i ∧ i + 1 < ws.length) →
    kjY kPP (kQQ Y) (d + 7) 251 8 [some (.ref 75), some (.int x1)] [] u (soK σ0 B σ ws nm ks) := by
  intro f
  induction f with
  | zero =>
    intro i x1 u hf hi hil e1 tu wu su hl
    obtain ⟨-, -, -, -, ⟨h4, h1024⟩, -⟩ := wu.2.2.2.1
    refine kjZ_y rfl rfl 5 _ _ _ _ tu ?_
    refine (And.intro (tu.k (by decide) rfl) (And.intro (tu.k (by decide) rfl) (And.intro (fun c => ?_) (fun c => ?_))))
    rotate_left
    · refine absurd (show u.1 53 4 ≤ x1 from ?_) c
      rw [h4, e1, nle (by omega) (by omega)]; omega
    refine kjZ_y rfl rfl 2 _ _ _ _ tu ?_
    refine And.intro rfl (And.intro (Or.inr (Or.inl ⟨rfl, Or.inr rfl⟩)) ?_)
    exact ⟨wu, su, Or.inr ⟨rfl, hl⟩⟩
  | succ f ih =>
    intro i x1 u hf hi hil e1 tu wu su hl
    obtain ⟨-, -, -, -, ⟨h4, h1024⟩, -⟩ := wu.2.2.2.1
    refine kjZ_y rfl rfl 5 _ _ _ _ tu ?_
    refine (And.intro (tu.k (by decide) rfl) (And.intro (tu.k (by decide) rfl) (And.intro (fun c => ?_) (fun c => ?_))))
    · refine kjZ_y rfl rfl 2 _ _ _ _ tu ?_
      refine And.intro rfl (And.intro (Or.inr (Or.inl ⟨rfl, Or.inr rfl⟩)) ?_)
      exact ⟨wu, su, Or.inr ⟨rfl, hl⟩⟩
    have c : ¬ u.1 53 4 ≤ x1 := c
    rw [h4, e1, nle (by omega) (by omega)] at c
    have s49 : kjY kPP (kQQ Y) (d + 7) 251 49 [some (.ref 75), some (.int x1)] [] u (soK σ0 B σ ws nm ks) := by
      refine kjZ_y rfl rfl 2 _ _ _ _ tu ?_
      refine And.intro rfl (And.intro (Or.inr (Or.inl ⟨rfl, Or.inl rfl⟩)) ?_)
      exact ⟨wu, su, Or.inl rfl⟩
    have s26 : kjY kPP (kQQ Y) (d + 7) 251 26 [some (.ref 75), some (.int x1)] [] u (soK σ0 B σ ws nm ks) := by
      refine kjZ_y rfl rfl 3 _ _ _ _ tu ?_
      refine (And.intro (tu.k (by decide) rfl) (And.intro (fun c2 => ?_) (fun c2 => ?_)))
      · exact s49
      refine kjZ_y rfl rfl 5 _ _ _ _ tu ?_
      refine (And.intro (tu.k (by decide) rfl) (And.intro rfl (And.intro (Nat.le_of_ble_eq_true rfl) (And.intro (Or.inl ⟨(Nat.le_of_ble_eq_true rfl), (tu.k (by decide) rfl)⟩) (And.intro (Nat.le_of_ble_eq_true rfl) (And.intro (Nat.le_of_ble_eq_true rfl) (kjY_mono tu (fun q_ u1 ty1 xu1 h_ => ?_) (kx_is tu wu (i := 165) (by decide) i (by omega) _ e1))))))))
      obtain ⟨rfl, q1⟩ := h_
      intro _ _
      rcases q1 with ⟨rfl, q1⟩ | ⟨rfl, q1⟩
      rotate_left
      · refine kjZ_y rfl rfl 1 _ _ _ _ ty1 ?_
        refine And.intro (fun c3 => ?_) (fun c3 => ?_)
        rotate_left
        · exact absurd rfl c3
        exact s49
      refine kjZ_y rfl rfl 1 _ _ _ _ ty1 ?_
      refine And.intro (fun c3 => ?_) (fun c3 => ?_)
      · exact absurd (show (1 : Int32) = 0 from c3) (by decide)
      refine kjZ_y rfl rfl 7 _ _ _ _ ty1 ?_
      refine (And.intro (ty1.k (by decide) rfl) (And.intro (ty1.k (by decide) rfl) (And.intro (fun c4 => ?_) (fun c4 => ?_))))
      · exact s49
      have c4 : ¬ u1.1 53 4 ≤ x1 + Int32.ofInt 2 := c4
      rw [h4, e1, show nI i + Int32.ofInt 2 = nI (i + 2) from nI_add i 2, nle (by omega) (by omega)] at c4
      refine kjZ_y rfl rfl 5 _ _ _ _ ty1 ?_
      refine (And.intro (ty1.k (by decide) rfl) (And.intro (Or.inl rfl) (fun ty1' => ?_)))
      have go : ∀ z, kTY z → z = (mjIu u1.1 75 6 (x1 + Int32.ofInt 1), u1.2) → kjY kPP (kQQ Y) (d + 7) 251 47 [some (.ref 75), some (.int x1)] [] z (soK σ0 B σ ws nm ks) := by
        intro z tz ez
        have wz : KWd σ0 B z ws nm ks := by rw [ez]; exact wu.pi ty1 (by decide)
        have sz : SCl scY σ z := by rw [ez]; exact su.tr (SCl.i (by decide +kernel))
        have z6 : z.1 75 6 = nI (i + 1) := by
          rw [ez]; show x1 + Int32.ofInt 1 = _
          rw [e1]; exact nI_1 i
        refine kjZ_y rfl rfl 4 _ _ _ _ tz ?_
        exact ih (i + 3) _ z (by omega) (by omega) (by omega) (by rw [e1]; show nI i + nI 2 + nI 1 = _; rw [nI_add, nI_add]) tz wz sz (Or.inr ⟨i + 1, z6, by omega, by omega⟩)
      exact go _ ty1' rfl
    refine kjZ_y rfl rfl 3 _ _ _ _ tu ?_
    refine (And.intro (tu.k (by decide) rfl) (And.intro (fun c2 => ?_) (fun c2 => ?_)))
    · exact s26
    refine kjZ_y rfl rfl 5 _ _ _ _ tu ?_
    refine (And.intro (tu.k (by decide) rfl) (And.intro rfl (And.intro (Nat.le_of_ble_eq_true rfl) (And.intro (Or.inl ⟨(Nat.le_of_ble_eq_true rfl), (tu.k (by decide) rfl)⟩) (And.intro (Nat.le_of_ble_eq_true rfl) (And.intro (Nat.le_of_ble_eq_true rfl) (kjY_mono tu (fun q_ u1 ty1 xu1 h_ => ?_) (kx_is tu wu (i := 161) (by decide) i (by omega) _ e1))))))))
    obtain ⟨rfl, q1⟩ := h_
    intro _ _
    rcases q1 with ⟨rfl, q1⟩ | ⟨rfl, q1⟩
    rotate_left
    · refine kjZ_y rfl rfl 1 _ _ _ _ ty1 ?_
      refine And.intro (fun c3 => ?_) (fun c3 => ?_)
      rotate_left
      · exact absurd rfl c3
      exact s26
    refine kjZ_y rfl rfl 1 _ _ _ _ ty1 ?_
    refine And.intro (fun c3 => ?_) (fun c3 => ?_)
    · exact absurd (show (1 : Int32) = 0 from c3) (by decide)
    refine kjZ_y rfl rfl 4 _ _ _ _ ty1 ?_
    refine (And.intro (ty1.k (by decide) rfl) (And.intro (Or.inr ⟨rfl, Or.inr rfl⟩) (fun ty1' => ?_)))
    have go : ∀ z, kTY z → z = (mjIu u1.1 75 5 (Int32.ofInt 1), u1.2) → kjY kPP (kQQ Y) (d + 7) 251 51 [some (.ref 75), some (.int x1)] [] z (soK σ0 B σ ws nm ks) := by
      intro z tz ez
      have wz : KWd σ0 B z ws nm ks := by rw [ez]; exact wu.pi ty1 (by decide)
      have sz : SCl scY σ z := by rw [ez]; exact su.tr (SCl.i (by decide +kernel))
      have z6 : z.1 75 6 = u1.1 75 6 := by rw [ez]; rfl
      refine kjZ_y rfl rfl 2 _ _ _ _ tz ?_
      exact ih (i + 1) _ z (by omega) (by omega) (by omega) (by rw [e1]; exact nI_1 i) tz wz sz (by rw [z6]; exact hl)
    exact go _ ty1' rfl
theorem kx_rso (ty : kTY σ) (w : KWd σ0 B σ ws nm ks) (hl : 4 ≤ ws.length) : kjY kPP (kQQ Y) (d + 7) 251 0 (mjL0 2 [.ref 75]) [] σ (soK σ0 B σ ws nm ks) := by
  refine kjZ_y rfl rfl 6 _ _ _ _ ty ?_
  refine (And.intro (ty.k (by decide) rfl) (And.intro (Or.inr ⟨rfl, Or.inl rfl⟩) (fun ty' => (And.intro (ty'.k (by decide) rfl) (And.intro (Or.inl rfl) (fun ty'' => ?_))))))
  have go : ∀ z, kTY z → z = (mjIu (mjIu σ.1 75 5 (Int32.ofInt 0)) 75 6 (Int32.ofInt 0), σ.2) → kjY kPP (kQQ Y) (d + 7) 251 6 [some (.ref 75), none] [] z (soK σ0 B σ ws nm ks) := by
    intro z tz ez
    have wz : KWd σ0 B z ws nm ks := by rw [ez]; exact KWd.pi (σ := (mjIu σ.1 75 5 (Int32.ofInt 0), σ.2)) ty' (w.pi ty (by decide)) (by decide)
    have sz : SCl scY σ z := by rw [ez]; exact SCl.tr (SCl.i (h := 75) (x := 5) (v := Int32.ofInt 0) (by decide +kernel)) (SCl.i (by decide +kernel))
    have z6 : z.1 75 6 = 0 := by rw [ez]; rfl
    refine kjZ_y rfl rfl 2 _ _ _ _ tz ?_
    refine (And.intro (Nat.le_of_ble_eq_true rfl) ?_)
    exact k_rso_l ws.length 4 _ z (by omega) (Nat.le_refl _) hl rfl tz wz sz (Or.inl z6)
  exact go _ ty'' rfl
theorem kx_zbyscore (ty : kTY σ) (w : KWd σ0 B σ ws nm ks) (hr : RSD ks) (hB : BOK B ws) {j : Nat} (hj : CMD σ j) {v a2 a3 : List Int32} (hv : ws[1]? = some v) (h2 : ws[2]? = some a2) (h3 : ws[3]? = some a3) (hS : ∀ x ∈ ks, x.2.2.2.2.2.2.1 = 4 → ZP x.2.2.2.2.2.2.2.2.2.2) (x1 : Int32) :
    kjY kPP (kQQ Y) (d + 9) 252 0 (mjL0 12 [.ref 75, .int x1]) [] σ (cdP σ0 B σ ws nm ks none) := by
  have hlen := (List.getElem?_eq_some_iff.mp hv).1
  have hlen3 := (List.getElem?_eq_some_iff.mp h3).1
  -- the line told, when the key is not there
  have tail0 : ∀ (z : kS) (nm' : List (List Int32)) (n2 n4 : Int64), kTY z → PRE nm nm' → KWd σ0 B z ws nm' ks → SCl scH σ z → kjY kPP (kQQ Y) (d + 9) 252 53 [some (.ref 75), some (.int x1), some (.long n2), none, some (.long n4), none, some .null, none, none, none, none, none] [] z (cdP σ0 B σ ws nm ks none) := by
    intro z nm' n2 n4 tz hp wz sz
    have s107 : ∀ (z : kS) (x7 x8 x9 x10 x11 : Int32), kTY z → KWd σ0 B z ws nm' ks → SCl scH σ z → kjY kPP (kQQ Y) (d + 9) 252 107 [some (.ref 75), some (.int x1), some (.long n2), none, some (.long n4), none, some .null, some (.int x7), some (.int x8), some (.int x9), some (.int x10), some (.int x11)] [] z (cdP σ0 B σ ws nm ks none) := by
      intro z x7 x8 x9 x10 x11 tz wz sz
      have go : ∀ x : Int32, kjY kPP (kQQ Y) (d + 9) 252 120 [some (.ref 75), some (.int x1), some (.long n2), none, some (.long n4), none, some .null, some (.int x7), some (.int x8), some (.int x9), some (.int x10), some (.int x11)] [.int x, .null, .ref 75] z (cdP σ0 B σ ws nm ks none) := by
        intro x
        refine kjZ_y rfl rfl 3 _ _ _ _ tz ?_
        refine (And.intro (Nat.le_of_ble_eq_true rfl) (And.intro (Or.inl ⟨(Nat.le_of_ble_eq_true rfl), (tz.k (by decide) rfl)⟩) (And.intro (Nat.le_of_ble_eq_true rfl) (And.intro (Nat.le_of_ble_eq_true rfl) (kjY_mono tz (fun q_ u5 ty5 xu5 h_ => ?_) (kx_tellLine0 (d := d + 1) tz wz _ _ _))))))
        obtain ⟨rfl, w5, s5⟩ := h_
        intro _ _
        refine kjZ_y rfl rfl 1 _ _ _ _ ty5 ?_
        refine And.intro rfl (And.intro rfl ?_)
        exact cd_no hp w5 hr (sz.tr s5.h) rfl
      refine kjZ_y rfl rfl 4 _ _ _ _ tz ?_
      refine And.intro (fun c => ?_) (fun c => ?_)
      · refine kjZ_y rfl rfl 3 _ _ _ _ tz ?_
        exact go _
      · refine kjZ_y rfl rfl 6 _ _ _ _ tz ?_
        exact go _
    have s91 : ∀ (z : kS) (x7 x8 x9 x10 : Int32), kTY z → KWd σ0 B z ws nm' ks → SCl scH σ z → kjY kPP (kQQ Y) (d + 9) 252 91 [some (.ref 75), some (.int x1), some (.long n2), none, some (.long n4), none, some .null, some (.int x7), some (.int x8), some (.int x9), some (.int x10), none] [] z (cdP σ0 B σ ws nm ks none) := by
      intro z x7 x8 x9 x10 tz wz sz
      refine kjZ_y rfl rfl 4 _ _ _ _ tz ?_
      refine And.intro (fun c => ?_) (fun c => ?_)
      · refine kjZ_y rfl rfl 6 _ _ _ _ tz ?_
        refine (And.intro (Nat.le_of_ble_eq_true rfl) (And.intro (Nat.le_of_ble_eq_true rfl) (And.intro (Nat.le_of_ble_eq_true rfl) (kjY_mono tz (fun q_ u5 ty5 xu5 h_ => ?_) (k_minL tz _ _)))))
        obtain ⟨rfl, rfl⟩ := h_
        intro _ _
        refine kjZ_y rfl rfl 2 _ _ _ _ ty5 ?_
        refine (And.intro (Nat.le_of_ble_eq_true rfl) ?_)
        exact s107 u5 _ _ _ _ _ ty5 wz sz
      · refine kjZ_y rfl rfl 5 _ _ _ _ tz ?_
        refine (And.intro (Nat.le_of_ble_eq_true rfl) ?_)
        exact s107 z _ _ _ _ _ tz wz sz
    have s73 : ∀ (z : kS) (x7 x8 : Int32), kTY z → KWd σ0 B z ws nm' ks → SCl scH σ z → kjY kPP (kQQ Y) (d + 9) 252 73 [some (.ref 75), some (.int x1), some (.long n2), none, some (.long n4), none, some .null, some (.int x7), some (.int x8), none, none, none] [] z (cdP σ0 B σ ws nm ks none) := by
      intro z x7 x8 tz wz sz
      refine kjZ_y rfl rfl 5 _ _ _ _ tz ?_
      refine (And.intro (Nat.le_of_ble_eq_true rfl) (And.intro (Nat.le_of_ble_eq_true rfl) (And.intro (Nat.le_of_ble_eq_true rfl) (kjY_mono tz (fun q_ u4 ty4 xu4 h_ => ?_) (k_max tz _ _)))))
      obtain ⟨rfl, rfl⟩ := h_
      intro _ _
      refine kjZ_y rfl rfl 1 _ _ _ _ ty4 ?_
      refine (And.intro (Nat.le_of_ble_eq_true rfl) ?_)
      refine kjZ_y rfl rfl 4 _ _ _ _ ty4 ?_
      refine And.intro (fun c => ?_) (fun c => ?_)
      · refine kjZ_y rfl rfl 4 _ _ _ _ ty4 ?_
        refine (And.intro (Nat.le_of_ble_eq_true rfl) (And.intro (Nat.le_of_ble_eq_true rfl) (And.intro (Nat.le_of_ble_eq_true rfl) (kjY_mono ty4 (fun q_ u5 ty5 xu5 h_ => ?_) (k_minL ty4 _ _)))))
        obtain ⟨rfl, rfl⟩ := h_
        intro _ _
        refine kjZ_y rfl rfl 2 _ _ _ _ ty5 ?_
        refine (And.intro (Nat.le_of_ble_eq_true rfl) ?_)
        exact s91 u5 _ _ _ _ ty5 wz sz
      · refine kjZ_y rfl rfl 3 _ _ _ _ ty4 ?_
        refine (And.intro (Nat.le_of_ble_eq_true rfl) ?_)
        exact s91 u4 _ _ _ _ ty4 wz sz
    have s70 : ∀ (z : kS) (x7 : Int32) (i : Nat) (a x : _), x = nI i → ws[i]? = some a → kTY z → KWd σ0 B z ws nm' ks → SCl scH σ z → kjY kPP (kQQ Y) (d + 9) 252 70 [some (.ref 75), some (.int x1), some (.long n2), none, some (.long n4), none, some .null, some (.int x7), none, none, none, none] [.int x, .null, .ref 75] z (cdP σ0 B σ ws nm ks none) := by
      intro z x7 i a x ex ha tz wz sz
      refine kjZ_y rfl rfl 2 _ _ _ _ tz ?_
      refine (And.intro (Nat.le_of_ble_eq_true rfl) (And.intro (Or.inl ⟨(Nat.le_of_ble_eq_true rfl), (tz.k (by decide) rfl)⟩) (And.intro (Nat.le_of_ble_eq_true rfl) (And.intro (Nat.le_of_ble_eq_true rfl) (kjY_mono tz (fun q_ u4 ty4 xu4 h_ => ?_) (kx_edge0 (d := d) tz wz ha _ _ ex))))))
      obtain ⟨w4, s4, rfl⟩ := h_
      intro _ _
      refine kjZ_y rfl rfl 1 _ _ _ _ ty4 ?_
      refine (And.intro (Nat.le_of_ble_eq_true rfl) ?_)
      exact s73 u4 _ _ ty4 w4 (sz.tr (s4.sub scHZ))
    have s60 : ∀ (i : Nat) (a x : _), x = nI i → ws[i]? = some a → kjY kPP (kQQ Y) (d + 9) 252 60 [some (.ref 75), some (.int x1), some (.long n2), none, some (.long n4), none, some .null, none, none, none, none, none] [.int x, .null, .ref 75] z (cdP σ0 B σ ws nm ks none) := by
      intro i a x ex ha
      refine kjZ_y rfl rfl 2 _ _ _ _ tz ?_
      refine (And.intro (Nat.le_of_ble_eq_true rfl) (And.intro (Or.inl ⟨(Nat.le_of_ble_eq_true rfl), (tz.k (by decide) rfl)⟩) (And.intro (Nat.le_of_ble_eq_true rfl) (And.intro (Nat.le_of_ble_eq_true rfl) (kjY_mono tz (fun q_ u4 ty4 xu4 h_ => ?_) (kx_edge0 (d := d) tz wz ha _ _ ex))))))
      obtain ⟨w4, s4, rfl⟩ := h_
      intro _ _
      refine kjZ_y rfl rfl 1 _ _ _ _ ty4 ?_
      refine (And.intro (Nat.le_of_ble_eq_true rfl) ?_)
      refine kjZ_y rfl rfl 4 _ _ _ _ ty4 ?_
      refine And.intro (fun c => ?_) (fun c => ?_)
      · refine kjZ_y rfl rfl 1 _ _ _ _ ty4 ?_
        exact s70 u4 _ 3 _ _ rfl h3 ty4 w4 (sz.tr (s4.sub scHZ))
      · refine kjZ_y rfl rfl 2 _ _ _ _ ty4 ?_
        exact s70 u4 _ 2 _ _ rfl h2 ty4 w4 (sz.tr (s4.sub scHZ))
    refine kjZ_y rfl rfl 4 _ _ _ _ tz ?_
    refine And.intro (fun c => ?_) (fun c => ?_)
    · refine kjZ_y rfl rfl 1 _ _ _ _ tz ?_
      exact s60 2 _ _ rfl h2
    · refine kjZ_y rfl rfl 2 _ _ _ _ tz ?_
      exact s60 3 _ _ rfl h3
  -- the line told, when it is
  have tail1 : ∀ (P Q : List KC) (y : KC), ks = P ++ y :: Q → y.2.2.2.2.2.2.1 = 4 → ∀ (z : kS) (nm' : List (List Int32)) (n2 n4 : Int64), kTY z → PRE nm nm' → KWd σ0 B z ws nm' ks → SCl scH σ z → kjY kPP (kQQ Y) (d + 9) 252 53 [some (.ref 75), some (.int x1), some (.long n2), none, some (.long n4), none, some (.ref y.1), none, none, none, none, none] [] z (cdP σ0 B σ ws nm ks none) := by
    intro P Q y hks hs4 z nm' n2 n4 tz hp wz sz
    subst hks
    have hs0 : ¬ y.2.2.2.2.2.2.1 = 0 := by rw [hs4]; decide
    have hZ := hS y (List.mem_append_right _ List.mem_cons_self) hs4
    have s107 : ∀ (z : kS) (x7 x8 x9 x10 x11 : Int32), kTY z → KWd σ0 B z ws nm' (P ++ y :: Q) → SCl scH σ z → kjY kPP (kQQ Y) (d + 9) 252 107 [some (.ref 75), some (.int x1), some (.long n2), none, some (.long n4), none, some (.ref y.1), some (.int x7), some (.int x8), some (.int x9), some (.int x10), some (.int x11)] [] z (cdP σ0 B σ ws nm (P ++ y :: Q) none) := by
      intro z x7 x8 x9 x10 x11 tz wz sz
      have kv := (wz.sz hs0).2.2
      have go : ∀ x : Int32, kjY kPP (kQQ Y) (d + 9) 252 120 [some (.ref 75), some (.int x1), some (.long n2), none, some (.long n4), none, some (.ref y.1), some (.int x7), some (.int x8), some (.int x9), some (.int x10), some (.int x11)] [.int x, .ref y.1, .ref 75] z (cdP σ0 B σ ws nm (P ++ y :: Q) none) := by
        intro x
        refine kjZ_y rfl rfl 3 _ _ _ _ tz ?_
        refine (And.intro (Nat.le_of_ble_eq_true rfl) (And.intro (Or.inl ⟨(Nat.le_of_ble_eq_true rfl), (tz.k (by decide) rfl)⟩) (And.intro (Nat.le_of_ble_eq_true rfl) (And.intro (Nat.le_of_ble_eq_true rfl) (kjY_mono tz (fun q_ u5 ty5 xu5 h_ => ?_) (kx_tellLinA (d := d + 1) tz wz hs0 _ _ _))))))
        obtain ⟨rfl, w5, s5⟩ := h_
        intro _ _
        refine kjZ_y rfl rfl 1 _ _ _ _ ty5 ?_
        refine And.intro rfl (And.intro rfl ?_)
        exact cd_no hp w5 hr (sz.tr s5.h) rfl
      refine kjZ_y rfl rfl 4 _ _ _ _ tz ?_
      refine And.intro (fun c => ?_) (fun c => ?_)
      · refine kjZ_y rfl rfl 3 _ _ _ _ tz ?_
        exact go _
      · refine kjZ_y rfl rfl 6 _ _ _ _ tz ?_
        exact go _
    have s91 : ∀ (z : kS) (x7 x8 x9 x10 : Int32), kTY z → KWd σ0 B z ws nm' (P ++ y :: Q) → SCl scH σ z → kjY kPP (kQQ Y) (d + 9) 252 91 [some (.ref 75), some (.int x1), some (.long n2), none, some (.long n4), none, some (.ref y.1), some (.int x7), some (.int x8), some (.int x9), some (.int x10), none] [] z (cdP σ0 B σ ws nm (P ++ y :: Q) none) := by
      intro z x7 x8 x9 x10 tz wz sz
      have kv := (wz.sz hs0).2.2
      refine kjZ_y rfl rfl 4 _ _ _ _ tz ?_
      refine And.intro (fun c => ?_) (fun c => ?_)
      · refine kjZ_y rfl rfl 6 _ _ _ _ tz ?_
        refine (And.intro (Nat.le_of_ble_eq_true rfl) (And.intro (Nat.le_of_ble_eq_true rfl) (And.intro (Nat.le_of_ble_eq_true rfl) (kjY_mono tz (fun q_ u5 ty5 xu5 h_ => ?_) (k_minL tz _ _)))))
        obtain ⟨rfl, rfl⟩ := h_
        intro _ _
        refine kjZ_y rfl rfl 2 _ _ _ _ ty5 ?_
        refine (And.intro (Nat.le_of_ble_eq_true rfl) ?_)
        exact s107 u5 _ _ _ _ _ ty5 wz sz
      · refine kjZ_y rfl rfl 5 _ _ _ _ tz ?_
        refine (And.intro (Nat.le_of_ble_eq_true rfl) ?_)
        exact s107 z _ _ _ _ _ tz wz sz
    have s73 : ∀ (z : kS) (x7 x8 : Int32), kTY z → KWd σ0 B z ws nm' (P ++ y :: Q) → SCl scH σ z → kjY kPP (kQQ Y) (d + 9) 252 73 [some (.ref 75), some (.int x1), some (.long n2), none, some (.long n4), none, some (.ref y.1), some (.int x7), some (.int x8), none, none, none] [] z (cdP σ0 B σ ws nm (P ++ y :: Q) none) := by
      intro z x7 x8 tz wz sz
      have kv := (wz.sz hs0).2.2
      refine kjZ_y rfl rfl 5 _ _ _ _ tz ?_
      refine (And.intro (Nat.le_of_ble_eq_true rfl) (And.intro (Nat.le_of_ble_eq_true rfl) (And.intro (Nat.le_of_ble_eq_true rfl) (kjY_mono tz (fun q_ u4 ty4 xu4 h_ => ?_) (k_max tz _ _)))))
      obtain ⟨rfl, rfl⟩ := h_
      intro _ _
      refine kjZ_y rfl rfl 1 _ _ _ _ ty4 ?_
      refine (And.intro (Nat.le_of_ble_eq_true rfl) ?_)
      refine kjZ_y rfl rfl 4 _ _ _ _ ty4 ?_
      refine And.intro (fun c => ?_) (fun c => ?_)
      · refine kjZ_y rfl rfl 4 _ _ _ _ ty4 ?_
        refine (And.intro (Nat.le_of_ble_eq_true rfl) (And.intro (Nat.le_of_ble_eq_true rfl) (And.intro (Nat.le_of_ble_eq_true rfl) (kjY_mono ty4 (fun q_ u5 ty5 xu5 h_ => ?_) (k_minL ty4 _ _)))))
        obtain ⟨rfl, rfl⟩ := h_
        intro _ _
        refine kjZ_y rfl rfl 2 _ _ _ _ ty5 ?_
        refine (And.intro (Nat.le_of_ble_eq_true rfl) ?_)
        exact s91 u5 _ _ _ _ ty5 wz sz
      · refine kjZ_y rfl rfl 3 _ _ _ _ ty4 ?_
        refine (And.intro (Nat.le_of_ble_eq_true rfl) ?_)
        exact s91 u4 _ _ _ _ ty4 wz sz
    have s70 : ∀ (z : kS) (x7 : Int32) (i : Nat) (a x : _), x = nI i → ws[i]? = some a → kTY z → KWd σ0 B z ws nm' (P ++ y :: Q) → SCl scH σ z → kjY kPP (kQQ Y) (d + 9) 252 70 [some (.ref 75), some (.int x1), some (.long n2), none, some (.long n4), none, some (.ref y.1), some (.int x7), none, none, none, none] [.int x, .ref y.1, .ref 75] z (cdP σ0 B σ ws nm (P ++ y :: Q) none) := by
      intro z x7 i a x ex ha tz wz sz
      have kv := (wz.sz hs0).2.2
      refine kjZ_y rfl rfl 2 _ _ _ _ tz ?_
      refine (And.intro (Nat.le_of_ble_eq_true rfl) (And.intro (Or.inl ⟨(Nat.le_of_ble_eq_true rfl), (tz.k (by decide) rfl)⟩) (And.intro (Nat.le_of_ble_eq_true rfl) (And.intro (Nat.le_of_ble_eq_true rfl) (kjY_mono tz (fun q_ u4 ty4 xu4 h_ => ?_) (kx_edge (d := d) tz wz hs4 hZ ha true _ _ ex rfl))))))
      obtain ⟨w4, s4, p, rfl, -⟩ := h_
      intro _ _
      have kv4 := (w4.sz hs0).2.2
      refine kjZ_y rfl rfl 1 _ _ _ _ ty4 ?_
      refine (And.intro (Nat.le_of_ble_eq_true rfl) ?_)
      exact s73 u4 _ _ ty4 w4 (sz.tr (s4.sub scHZ))
    have s60 : ∀ (i : Nat) (a x : _), x = nI i → ws[i]? = some a → kjY kPP (kQQ Y) (d + 9) 252 60 [some (.ref 75), some (.int x1), some (.long n2), none, some (.long n4), none, some (.ref y.1), none, none, none, none, none] [.int x, .ref y.1, .ref 75] z (cdP σ0 B σ ws nm (P ++ y :: Q) none) := by
      intro i a x ex ha
      have kv := (wz.sz hs0).2.2
      refine kjZ_y rfl rfl 2 _ _ _ _ tz ?_
      refine (And.intro (Nat.le_of_ble_eq_true rfl) (And.intro (Or.inl ⟨(Nat.le_of_ble_eq_true rfl), (tz.k (by decide) rfl)⟩) (And.intro (Nat.le_of_ble_eq_true rfl) (And.intro (Nat.le_of_ble_eq_true rfl) (kjY_mono tz (fun q_ u4 ty4 xu4 h_ => ?_) (kx_edge (d := d) tz wz hs4 hZ ha false _ _ ex rfl))))))
      obtain ⟨w4, s4, p, rfl, -⟩ := h_
      intro _ _
      have kv4 := (w4.sz hs0).2.2
      refine kjZ_y rfl rfl 1 _ _ _ _ ty4 ?_
      refine (And.intro (Nat.le_of_ble_eq_true rfl) ?_)
      refine kjZ_y rfl rfl 4 _ _ _ _ ty4 ?_
      refine And.intro (fun c => ?_) (fun c => ?_)
      · refine kjZ_y rfl rfl 1 _ _ _ _ ty4 ?_
        exact s70 u4 _ 3 _ _ rfl h3 ty4 w4 (sz.tr (s4.sub scHZ))
      · refine kjZ_y rfl rfl 2 _ _ _ _ ty4 ?_
        exact s70 u4 _ 2 _ _ rfl h2 ty4 w4 (sz.tr (s4.sub scHZ))
    have kv := (wz.sz hs0).2.2
    refine kjZ_y rfl rfl 4 _ _ _ _ tz ?_
    refine And.intro (fun c => ?_) (fun c => ?_)
    · refine kjZ_y rfl rfl 1 _ _ _ _ tz ?_
      exact s60 2 _ _ rfl h2
    · refine kjZ_y rfl rfl 2 _ _ _ _ tz ?_
      exact s60 3 _ _ rfl h3
  -- from the refusal on
  have s29 : ∀ z, kTY z → KWd σ0 B z ws nm ks → SCl scH σ z → kjY kPP (kQQ Y) (d + 9) 252 29 [some (.ref 75), some (.int x1), none, none, none, none, none, none, none, none, none, none] [] z (cdP σ0 B σ ws nm ks none) := by
    intro z tz wz sz
    refine kjZ_y rfl rfl 6 _ _ _ _ tz ?_
    refine (And.intro (tz.k (by decide) rfl) (And.intro (Nat.le_of_ble_eq_true rfl) (And.intro (Or.inl ⟨(Nat.le_of_ble_eq_true rfl), (tz.k (by decide) rfl)⟩) (And.intro (Nat.le_of_ble_eq_true rfl) (And.intro (Nat.le_of_ble_eq_true rfl) (kjY_mono tz (fun q_ u1 ty1 xu1 h_ => ?_) (kx_refuses tz wz hB (hj.sc sz) (a := 1) (b := 1) (by omega) (by omega) (s := 4) (by decide) _ _ _ rfl rfl rfl)))))))
    obtain ⟨nm1, p1, w1, s1, q⟩ := h_
    intro _ _
    rw [rf1 wz hv, (sz (59, 17) (by decide)).1] at q
    rcases q with ⟨rfl, q⟩ | ⟨rfl, q⟩
    · refine kjZ_y rfl rfl 1 _ _ _ _ ty1 ?_
      refine And.intro (fun c => ?_) (fun c => ?_)
      · exact absurd (show (1 : Int32) = 0 from c) (by decide)
      refine kjZ_y rfl rfl 1 _ _ _ _ ty1 ?_
      refine And.intro rfl (And.intro rfl ?_)
      exact cd_no p1 w1 hr (sz.tr s1.h) rfl
    have hso := fun z => q (Or.inr z)
    refine kjZ_y rfl rfl 1 _ _ _ _ ty1 ?_
    refine And.intro (fun c => ?_) (fun c => ?_)
    rotate_left
    · exact absurd rfl c
    refine kjZ_y rfl rfl 14 _ _ _ _ ty1 ?_
    refine (And.intro (ty1.k (by decide) rfl) (And.intro (ty1.k (by decide) rfl) (And.intro (Nat.le_of_ble_eq_true rfl) (And.intro (ty1.k (by decide) rfl) (And.intro (ty1.k (by decide) rfl) (And.intro (Nat.le_of_ble_eq_true rfl) (And.intro (ty1.k (by decide) rfl) (And.intro (ty1.k (by decide) rfl) (And.intro (Nat.le_of_ble_eq_true rfl) (And.intro (Or.inl ⟨(Nat.le_of_ble_eq_true rfl), (ty1.k (by decide) rfl)⟩) (And.intro (Nat.le_of_ble_eq_true rfl) (And.intro (Nat.le_of_ble_eq_true rfl) (kjY_mono ty1 (fun q_ u2 ty2 xu2 h_ => ?_) (kx_id ty1 w1 hB hv _ rfl))))))))))))))
    obtain ⟨k, nm2, rfl, p2, p3, w2, s2⟩ := h_
    intro _ _
    refine kjZ_y rfl rfl 1 _ _ _ _ ty2 ?_
    refine (And.intro (Nat.le_of_ble_eq_true rfl) (And.intro (Or.inl ⟨(Nat.le_of_ble_eq_true rfl), (ty2.k (by decide) rfl)⟩) (And.intro (Nat.le_of_ble_eq_true rfl) (And.intro (Nat.le_of_ble_eq_true rfl) (kjY_mono ty2 (fun q_ u3 ty3 xu3 h_ => ?_) (kx_find ty2 w2 p2 _ rfl))))))
    obtain ⟨rfl, q3⟩ := h_
    intro _ _
    have sH := sz.tr (s1.tr s2).h
    have pA := p1.tr p3
    rcases q3 with ⟨rfl, q3⟩ | ⟨P, y, Q, rfl, f0, f1, f2⟩
    · refine kjZ_y rfl rfl 1 _ _ _ _ ty3 ?_
      refine (And.intro (Nat.le_of_ble_eq_true rfl) ?_)
      exact tail0 u3 nm2 _ _ ty3 pA w2 sH
    · have hs4 : y.2.2.2.2.2.2.1 = 4 := by
        have f0' := f0
        subst f0'
        exact so_1 (s := 4) f2 hso
      have kv : (u3.2.2.2.1 y.1).1 = 11 := by
        have w9 := w2
        rw [f0] at w9
        exact (w9.sz (by rw [hs4]; decide)).2.2
      refine kjZ_y rfl rfl 1 _ _ _ _ ty3 ?_
      refine (And.intro (Nat.le_of_ble_eq_true rfl) ?_)
      exact tail1 P Q y f0 hs4 u3 nm2 _ _ ty3 pA w2 sH
  refine kjZ_y rfl rfl 2 _ _ _ _ ty ?_
  refine (And.intro (Nat.le_of_ble_eq_true rfl) (And.intro (Or.inl ⟨(Nat.le_of_ble_eq_true rfl), (ty.k (by decide) rfl)⟩) (And.intro (Nat.le_of_ble_eq_true rfl) (And.intro (Nat.le_of_ble_eq_true rfl) (kjY_mono ty (fun q_ u0 ty0 xu0 h_ => ?_) (kx_rso (d := d + 1) ty w (by omega)))))))
  obtain ⟨w0, s0, q⟩ := h_
  intro _ _
  have hH := s0.sub scHY
  rcases q with rfl | ⟨rfl, hlim⟩
  · refine kjZ_y rfl rfl 1 _ _ _ _ ty0 ?_
    refine And.intro (fun c => ?_) (fun c => ?_)
    · exact absurd rfl c
    refine kjZ_y rfl rfl 4 _ _ _ _ ty0 ?_
    refine (And.intro (ty0.k (by decide) rfl) (And.intro rfl (And.intro (Nat.le_of_ble_eq_true rfl) (And.intro (Or.inl ⟨(Nat.le_of_ble_eq_true rfl), (ty0.k (by decide) rfl)⟩) (And.intro (Nat.le_of_ble_eq_true rfl) (And.intro (Nat.le_of_ble_eq_true rfl) (kjY_mono ty0 (fun q_ u1 ty1 xu1 h_ => ?_) (kx_refuse ty0 w0 (i := 160) (by decide)))))))))
    obtain ⟨rfl, w1, s1⟩ := h_
    intro _ _
    refine kjZ_y rfl rfl 1 _ _ _ _ ty1 ?_
    refine And.intro rfl (And.intro rfl ?_)
    exact cd_no PRE.rf w1 hr (hH.tr s1.h) rfl
  refine kjZ_y rfl rfl 1 _ _ _ _ ty0 ?_
  refine And.intro (fun c => ?_) (fun c => ?_)
  rotate_left
  · exact absurd (show ¬ (1 : Int32) = 0 by decide) c
  refine kjZ_y rfl rfl 4 _ _ _ _ ty0 ?_
  refine (And.intro (ty0.k (by decide) rfl) (And.intro (ty0.k (by decide) rfl) (And.intro rfl (fun ty0' => ?_))))
  have go : ∀ z, kTY z → z = (u0.1, mjLu u0.2.1 53 10 (Int64.ofNat 0), u0.2.2) → kjY kPP (kQQ Y) (d + 9) 252 12 [some (.ref 75), some (.int x1), none, none, none, none, none, none, none, none, none, none] [] z (cdP σ0 B σ ws nm ks none) := by
    intro z tz ez
    have wz : KWd σ0 B z ws nm ks := by rw [ez]; exact w0.pl ty0 (by decide)
    have sz : SCl scH σ z := by rw [ez]; exact hH.tr (SCl.l (by decide +kernel))
    have z6 : z.1 75 6 = u0.1 75 6 := by rw [ez]
    refine kjZ_y rfl rfl 2 _ _ _ _ tz ?_
    refine (And.intro (Nat.le_of_ble_eq_true rfl) (And.intro (Or.inl ⟨(Nat.le_of_ble_eq_true rfl), (tz.k (by decide) rfl)⟩) (And.intro (Nat.le_of_ble_eq_true rfl) (And.intro (Nat.le_of_ble_eq_true rfl) (kjY_mono tz (fun q_ u1 ty1 xu1 h_ => ?_) (kx_lacksBounds (d := d) tz wz h2 h3))))))
    obtain ⟨w1, s1, q⟩ := h_
    intro _ _
    have hH1 := sz.tr (s1.sub scHZ)
    rcases q with ⟨rfl, q1, q2⟩ | ⟨rfl, q1⟩
    rotate_left
    · refine kjZ_y rfl rfl 1 _ _ _ _ ty1 ?_
      refine And.intro (fun c => ?_) (fun c => ?_)
      · exact absurd (show (1 : Int32) = 0 from c) (by decide)
      refine kjZ_y rfl rfl 1 _ _ _ _ ty1 ?_
      refine And.intro rfl (And.intro rfl ?_)
      exact cd_no PRE.rf w1 hr hH1 rfl
    have u6 : u1.1 75 6 = u0.1 75 6 := ((s1 (75, 6) (by decide)).1).trans z6
    refine kjZ_y rfl rfl 1 _ _ _ _ ty1 ?_
    refine And.intro (fun c => ?_) (fun c => ?_)
    rotate_left
    · exact absurd rfl c
    refine kjZ_y rfl rfl 4 _ _ _ _ ty1 ?_
    refine (And.intro (ty1.k (by decide) rfl) (And.intro (ty1.k (by decide) rfl) (And.intro rfl (fun ty1' => ?_))))
    have go2 : ∀ y, kTY y → y = (u1.1, mjLu u1.2.1 53 9 (-1), u1.2.2) → kjY kPP (kQQ Y) (d + 9) 252 20 [some (.ref 75), some (.int x1), none, none, none, none, none, none, none, none, none, none] [] y (cdP σ0 B σ ws nm ks none) := by
      intro y t9 ey
      have wy : KWd σ0 B y ws nm ks := by rw [ey]; exact w1.pl ty1 (by decide)
      have sy : SCl scH σ y := by rw [ey]; exact hH1.tr (SCl.l (by decide +kernel))
      have y6 : y.1 75 6 = u0.1 75 6 := by rw [ey]; exact u6
      refine kjZ_y rfl rfl 3 _ _ _ _ t9 ?_
      refine (And.intro (t9.k (by decide) rfl) (And.intro (fun c2 => ?_) (fun c2 => ?_)))
      · exact s29 y t9 wy sy
      have c2 : ¬ y.1 75 6 ≤ 0 := c2
      rcases hlim with hlim | ⟨i, hi1, hi2, hi3⟩
      · rw [y6, hlim] at c2; exact absurd (by decide) c2
      have g1 := List.getElem?_eq_getElem (show i < ws.length by omega)
      have g2 := List.getElem?_eq_getElem hi3
      refine kjZ_y rfl rfl 5 _ _ _ _ t9 ?_
      refine (And.intro (t9.k (by decide) rfl) (And.intro (t9.k (by decide) rfl) (And.intro (Nat.le_of_ble_eq_true rfl) (And.intro (Or.inl ⟨(Nat.le_of_ble_eq_true rfl), (t9.k (by decide) rfl)⟩) (And.intro (Nat.le_of_ble_eq_true rfl) (And.intro (Nat.le_of_ble_eq_true rfl) (kjY_mono t9 (fun q_ u2 ty2 xu2 h_ => ?_) (kx_lacksSpan t9 wy g1 g2 _ (y6.trans hi1)))))))))
      obtain ⟨w2, s2, q⟩ := h_
      intro _ _
      have hH2 := sy.tr (s2.sub scHC)
      rcases q with ⟨a, b, q1, rfl, e10, e9⟩ | ⟨q1, rfl⟩
      · refine kjZ_y rfl rfl 1 _ _ _ _ ty2 ?_
        refine And.intro (fun c3 => ?_) (fun c3 => ?_)
        · exact absurd rfl c3
        exact s29 u2 ty2 w2 hH2
      · refine kjZ_y rfl rfl 1 _ _ _ _ ty2 ?_
        refine And.intro (fun c3 => ?_) (fun c3 => ?_)
        rotate_left
        · exact absurd (show ¬ (1 : Int32) = 0 by decide) c3
        refine kjZ_y rfl rfl 1 _ _ _ _ ty2 ?_
        refine And.intro rfl (And.intro rfl ?_)
        exact cd_no PRE.rf w2 hr hH2 rfl
    exact go2 _ ty1' rfl
  exact go _ ty0' rfl
end KZREAD
