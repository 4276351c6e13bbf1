/-! GETRANGE; bits are read. -/
section KBIT
variable {Y : Nat → MethodName × ByteArray} {d : Nat} {σ0 σ u : kS} {B ws nm nm' : List (List Int32)} {ks : List KC}
theorem kx_getRange (ty : kTY σ) (w : KWd σ0 B σ ws nm ks) (hr : RSD ks) (hB : BOK B ws) {j : Nat} (hj : CMD σ j) {v a2 a3 : List Int32} (hv : ws[1]? = some v) (h2 : ws[2]? = some a2) (h3 : ws[3]? = some a3) :
    kjY kPP (kQQ Y) (d + 7) 179 0 (mjL0 2 [.ref 67]) [] σ (cdP σ0 B σ ws nm ks none) := by
  have hlen := (List.getElem?_eq_some_iff.mp hv).1
  refine kjZ_y rfl rfl 4 _ _ _ _ ty ?_
  refine (And.intro (ty.k (by decide) rfl) (And.intro (Nat.le_of_ble_eq_true rfl) (And.intro (Or.inl ⟨(Nat.le_of_ble_eq_true rfl), (ty.k (by decide) rfl)⟩) (And.intro (Nat.le_of_ble_eq_true rfl) (And.intro (Nat.le_of_ble_eq_true rfl) (kjY_mono ty (fun q_ u0 ty0 xu0 h_ => ?_) (kx_lacksSpan ty w h2 h3 _ rfl)))))))
  obtain ⟨w0, s0, q⟩ := h_
  intro _ _
  have hH := s0.sub scHC
  rcases q with ⟨a, b, q1, rfl, e10, e9⟩ | ⟨q1, rfl⟩
  rotate_left
  · refine kjZ_y rfl rfl 1 _ _ _ _ ty0 ?_
    refine And.intro (fun c => ?_) (fun c => ?_)
    rotate_left
    · exact absurd (show ¬ (1 : Int32) = 0 by decide) c
    refine kjZ_y rfl rfl 1 _ _ _ _ ty0 ?_
    refine And.intro rfl (And.intro rfl ?_)
    exact cd_no PRE.rf w0 hr hH rfl
  refine kjZ_y rfl rfl 1 _ _ _ _ ty0 ?_
  refine And.intro (fun c => ?_) (fun c => ?_)
  · exact absurd rfl c
  refine kjZ_y rfl rfl 6 _ _ _ _ ty0 ?_
  refine (And.intro (ty0.k (by decide) rfl) (And.intro (Nat.le_of_ble_eq_true rfl) (And.intro (Or.inl ⟨(Nat.le_of_ble_eq_true rfl), (ty0.k (by decide) rfl)⟩) (And.intro (Nat.le_of_ble_eq_true rfl) (And.intro (Nat.le_of_ble_eq_true rfl) (kjY_mono ty0 (fun q_ u1 ty1 xu1 h_ => ?_) (kx_refuses ty0 w0 hB (hj.sc hH) (a := 1) (b := 1) (by omega) (by omega) (s := 0) (by decide) _ _ _ rfl rfl rfl)))))))
  obtain ⟨nm1, p1, w1, s1, q⟩ := h_
  intro _ _
  rcases q with ⟨rfl, q⟩ | ⟨rfl, q⟩
  · refine kjZ_y rfl rfl 1 _ _ _ _ ty1 ?_
    refine And.intro (fun c => ?_) (fun c => ?_)
    · exact absurd (show (1 : Int32) = 0 from c) (by decide)
    refine kjZ_y rfl rfl 1 _ _ _ _ ty1 ?_
    refine And.intro rfl (And.intro rfl ?_)
    exact cd_no p1 w1 hr (hH.tr s1.h) rfl
  refine kjZ_y rfl rfl 1 _ _ _ _ ty1 ?_
  refine And.intro (fun c => ?_) (fun c => ?_)
  rotate_left
  · exact absurd rfl c
  have hsof : ∀ P (y : KC) Q, ks = P ++ y :: Q → kyI (skA ks) v = some P.length → y.2.2.2.2.2.2.1 = 0 := by
    intro P y Q e0 e1
    rw [rf1 w0 hv] at q
    subst e0
    exact so_1 (s := 0) e1 (fun z => q (Or.inr z))
  refine kjZ_y rfl rfl 6 _ _ _ _ ty1 ?_
  refine (And.intro (ty1.k (by decide) rfl) (And.intro (ty1.k (by decide) rfl) (And.intro (Nat.le_of_ble_eq_true rfl) (And.intro (Or.inl ⟨(Nat.le_of_ble_eq_true rfl), (ty1.k (by decide) rfl)⟩) (And.intro (Nat.le_of_ble_eq_true rfl) (And.intro (Nat.le_of_ble_eq_true rfl) (kjY_mono ty1 (fun q_ u2 ty2 xu2 h_ => ?_) (kx_id ty1 w1 hB hv _ rfl))))))))
  obtain ⟨k, nm2, rfl, p2, p3, w2, s2⟩ := h_
  intro _ _
  refine kjZ_y rfl rfl 1 _ _ _ _ ty2 ?_
  refine (And.intro (Nat.le_of_ble_eq_true rfl) (And.intro (Or.inl ⟨(Nat.le_of_ble_eq_true rfl), (ty2.k (by decide) rfl)⟩) (And.intro (Nat.le_of_ble_eq_true rfl) (And.intro (Nat.le_of_ble_eq_true rfl) (kjY_mono ty2 (fun q_ u3 ty3 xu3 h_ => ?_) (kx_find ty2 w2 p2 _ rfl))))))
  obtain ⟨rfl, q3⟩ := h_
  intro _ _
  have sH := hH.tr (s1.tr s2).h
  rcases q3 with ⟨rfl, q3⟩ | ⟨P, y, Q, rfl, f0, f1, f2⟩
  · obtain ⟨b, hb, eb⟩ := w2.2.2.2.2.2.2.1
    have kb := ob_k ty3 (ANn_b b (ANb_n b hb)).1
    refine kjZ_y rfl rfl 8 _ _ _ _ ty3 ?_
    refine (And.intro (Nat.le_of_ble_eq_true rfl) (And.intro (ty3.k (by decide) rfl) (And.intro (ty3.k (by decide) rfl) (Exists.intro _ (And.intro eb (And.intro rfl (And.intro (Nat.le_of_ble_eq_true rfl) (And.intro (Or.inl ⟨(Nat.le_of_ble_eq_true rfl), (by assumption)⟩) (And.intro (Nat.le_of_ble_eq_true rfl) (And.intro (Nat.le_of_ble_eq_true rfl) (kjY_mono ty3 (fun q_ u4 ty4 xu4 h_ => ?_) (kx_text ty3 w2 hb (by decide)))))))))))))
    obtain ⟨rfl, w4, s4⟩ := h_
    intro _ _
    refine kjZ_y rfl rfl 1 _ _ _ _ ty4 ?_
    refine And.intro rfl (And.intro rfl ?_)
    exact cd_no (p1.tr p3) w4 hr (sH.tr s4.h) rfl
  · have hs0 := hsof P y Q f0 f2
    subst f0
    obtain ⟨z1, z2, kv⟩ := w2.tz hs0
    refine kjZ_y rfl rfl 8 _ _ _ _ ty3 ?_
    refine (And.intro (Nat.le_of_ble_eq_true rfl) (And.intro (ty3.k (by decide) rfl) (And.intro (by assumption) (And.intro (Nat.le_of_ble_eq_true rfl) (And.intro (Or.inl ⟨(Nat.le_of_ble_eq_true rfl), (ty3.k (by decide) rfl)⟩) (And.intro (Nat.le_of_ble_eq_true rfl) (And.intro (Nat.le_of_ble_eq_true rfl) (kjY_mono ty3 (fun q_ u4 ty4 xu4 h_ => ?_) (kx_cutSpan ty3 w2 (n := y.2.2.2.2.2.2.2.2.2.1.length) (by omega) _ z1)))))))))
    obtain ⟨rfl, w4, s4, lo, hi, t1, t2, t3, t4, -⟩ := h_
    intro _ _
    have kv4 := (w4.tz hs0).2.2
    obtain ⟨b, hb, eb⟩ := w4.2.2.2.2.2.2.1
    have hbn := ANb_n b hb
    have kb := ob_k ty4 (ANn_b b hbn).1
    obtain ⟨rt, NT, st, ro, ⟨g1, g2, g3⟩, ⟨v1, v6, v7, v8⟩, ⟨n1, n2, n3, n5⟩, ⟨nn1, nn2⟩, -⟩ := w4.tx ty4 hs0
    obtain ⟨l, hl⟩ := w4.2.2.2.2.2.1 b hbn
    have hng : ¬ u4.2.2.1 b 1 = some rt := fun z => by
      have e := w4.2.1.1 (b, 1) (ow_b (ANn_b b hbn).1) (59, 7) (by decide) (z.trans g1.symm)
      have e2 : b = 59 := congrArg Prod.fst e
      have q : ¬ 59 ∈ ANn := by decide
      exact q (e2 ▸ hbn)
    refine kjZ_y rfl rfl 20 _ _ _ _ ty4 ?_
    refine (And.intro (ty4.k (by decide) rfl) (And.intro (ty4.k (by decide) rfl) (Exists.intro _ (And.intro eb (And.intro (ty4.k (by decide) rfl) (And.intro (ty4.k (by decide) rfl) (Exists.intro _ (And.intro g1 (And.intro (by assumption) (And.intro (ty4.k (by decide) rfl) (And.intro (ty4.k (by decide) rfl) (And.intro (ty4.k (by decide) rfl) (And.intro (ty4.k (by decide) rfl) (And.intro (ty4.k (by decide) rfl) (And.intro (ty4.k (by decide) rfl) (And.intro (Nat.le_of_ble_eq_true rfl) (And.intro (Or.inl ⟨(Nat.le_of_ble_eq_true rfl), (by assumption)⟩) (And.intro (Nat.le_of_ble_eq_true rfl) (And.intro (Nat.le_of_ble_eq_true rfl) (kjY_mono ty4 (fun q_ u5 ty5 xu5 h_ => ?_) (k_word ty4 w4.2.1.1 (ANn_b b hbn).1 hl g2 (by omega) (show (st + lo) + (hi - lo) ≤ NT by omega) hng _ _ (show u4.1 y.1 7 + u4.1 53 11 = _ by rw [v7, t1, nI_add]) (show u4.1 53 12 - u4.1 53 11 = _ by rw [t1, t2]; exact pk_sub t3) (opQ_an hbn w4.2.1.2 l))))))))))))))))))))))
    have q5 := h_
    intro _ _
    obtain ⟨rfl, w5, s5⟩ := w4.op ty4 hbn q5
    refine kjZ_y rfl rfl 1 _ _ _ _ ty5 ?_
    refine And.intro rfl (And.intro rfl ?_)
    exact cd_no (p1.tr p3) w5 hr ((sH.tr (s4.sub scHD)).tr s5.h) rfl
/-- a bit's place -/
def btC (fits : Bool) (n : Int64) : Prop := fits = true ∧ (¬ n < 0) ∧ ¬ Int64.ofInt 131071 < n
theorem kx_lacksBit (ty : kTY σ) (w : KWd σ0 B σ ws nm ks) (fits : Bool) (x1 : Int32) (e1 : x1 = if fits = true then 1 else 0) : kjY kPP (kQQ Y) (d + 1) 182 0 (mjL0 2 [.ref 67, .int x1]) [] σ (fun r u => KWd σ0 B u ws nm ks ∧ SCl scA σ u ∧ ((r = some (.int 0) ∧ btC fits (σ.2.1 53 9)) ∨ (r = some (.int 1) ∧ ¬ btC fits (σ.2.1 53 9)))) := by
  have bad : ¬ btC fits (σ.2.1 53 9) → kjY kPP (kQQ Y) (d + 1) 182 16 [some (.ref 67), some (.int x1)] [] σ (fun r u => KWd σ0 B u ws nm ks ∧ SCl scA σ u ∧ ((r = some (.int 0) ∧ btC fits (σ.2.1 53 9)) ∨ (r = some (.int 1) ∧ ¬ btC fits (σ.2.1 53 9)))) := by
    intro h
    refine kjZ_y rfl rfl 4 _ _ _ _ ty ?_
    refine (And.intro (ty.k (by decide) rfl) (And.intro rfl (And.intro (Nat.le_of_ble_eq_true rfl) (And.intro (Or.inl ⟨(Nat.le_of_ble_eq_true rfl), (ty.k (by decide) rfl)⟩) (And.intro (Nat.le_of_ble_eq_true rfl) (And.intro (Nat.le_of_ble_eq_true rfl) (kjY_mono ty (fun q_ u1 ty1 xu1 h_ => ?_) (kx_refuse ty w (by decide)))))))))
    obtain ⟨rfl, w1, s1⟩ := h_
    intro _ _
    refine kjZ_y rfl rfl 2 _ _ _ _ ty1 ?_
    refine And.intro rfl (And.intro (Or.inr (Or.inl ⟨rfl, Or.inr rfl⟩)) ?_)
    exact ⟨w1, s1, Or.inr ⟨rfl, h⟩⟩
  refine kjZ_y rfl rfl 2 _ _ _ _ ty ?_
  refine And.intro (fun c => ?_) (fun c => ?_)
  · exact bad (fun z => by rw [if_pos z.1] at e1; exact absurd (e1.symm.trans c) (by decide))
  have hf : fits = true := by
    by_cases z : fits = true
    · exact z
    · rw [if_neg z] at e1; exact absurd e1 c
  refine kjZ_y rfl rfl 6 _ _ _ _ ty ?_
  refine (And.intro (ty.k (by decide) rfl) (And.intro (ty.k (by decide) rfl) (And.intro (fun c2 => ?_) (fun c2 => ?_))))
  · exact bad (fun z => z.2.1 ((lg_cmp_lt _ _).mp c2))
  refine kjZ_y rfl rfl 6 _ _ _ _ ty ?_
  refine (And.intro (ty.k (by decide) rfl) (And.intro (ty.k (by decide) rfl) (And.intro (fun c3 => ?_) (fun c3 => ?_))))
  · exact bad (fun z => z.2.2 ((lg_cmp_gt _ _).mp c3))
  refine kjZ_y rfl rfl 2 _ _ _ _ ty ?_
  refine And.intro rfl (And.intro (Or.inr (Or.inl ⟨rfl, Or.inl rfl⟩)) ?_)
  exact ⟨w, SCl.rf, Or.inl ⟨rfl, hf, fun z => c2 ((lg_cmp_lt _ _).mpr z), fun z => c3 ((lg_cmp_gt _ _).mpr z)⟩⟩
theorem kx_byteAt0 (ty : kTY σ) (x2 : Int32) : kjY kPP (kQQ Y) d 183 0 (mjL0 3 [.ref 67, .null, .int x2]) [] σ (fun r u => u = σ ∧ r = some (.int 0)) := by
  refine kjZ_y rfl rfl 4 _ _ _ _ ty ?_
  refine kjZ_y rfl rfl 1 _ _ _ _ ty ?_
  refine And.intro rfl (And.intro (Or.inl rfl) ?_)
  exact ⟨rfl, rfl⟩
theorem kx_byteAt (ty : kTY σ) {P Q : List KC} {y : KC} (w : KWd σ0 B σ ws nm (P ++ y :: Q)) (hs : y.2.2.2.2.2.2.1 = 0) {i : Nat} (hi : i < 2 ^ 30) (x2 : Int32) (e2 : x2 = nI i) : kjY kPP (kQQ Y) d 183 0 (mjL0 3 [.ref 67, .ref y.1, .int x2]) [] σ (fun r u => u = σ ∧ r = some (.int (y.2.2.2.2.2.2.2.2.2.1.getD i 0))) := by
  obtain ⟨rt, NT, st, ro, ⟨g1, g2, g3⟩, ⟨v1, v6, v7, v8⟩, ⟨n1, n2, n3, n5⟩, ⟨nn1, nn2⟩, -⟩ := w.tx ty hs
  have kv : (σ.2.2.2.1 y.1).1 = 11 := by rw [v1]
  refine kjZ_y rfl rfl 4 _ _ _ _ ty ?_
  refine And.intro (fun c => ?_) (fun c => ?_)
  · exact absurd (show x2 < 0 from c) (by rw [e2]; exact nI_n0 (by omega))
  refine kjZ_y rfl rfl 4 _ _ _ _ ty ?_
  refine (And.intro (by assumption) (And.intro (fun c2 => ?_) (fun c2 => ?_)))
  · have c2 : x2 < σ.1 y.1 6 := c2
    rw [e2, v6, nlt (by omega) (by omega)] at c2
    have ea : σ.1 y.1 7 + x2 = nI (st + i) := by rw [v7, e2, nI_add]
    refine kjZ_y rfl rfl 9 _ _ _ _ ty ?_
    refine (And.intro (ty.k (by decide) rfl) (And.intro (ty.k (by decide) rfl) (Exists.intro _ (And.intro g1 (And.intro (by assumption) (Or.inl (And.intro (kdk g2) (And.intro (kdv g2 (show vp_in (σ.1 y.1 7 + x2) NT by rw [ea]; exact vp_in_nI (by omega) (by omega))) (And.intro rfl (And.intro (Or.inl rfl) ?_))))))))))
    refine ⟨rfl, ?_⟩
    have e3 : y.2.2.2.2.2.2.2.2.2.1[i]? = some (σ.1 rt (st + i)) := by rw [← n5]; exact wd_get c2
    rw [List.getD_eq_getElem?_getD, e3]
    show some (Value.int (σ.1 rt (σ.1 y.1 7 + x2).toNatClampNeg)) = _
    rw [ea, nI_clamp (by omega)]; rfl
  · have c2 : ¬ x2 < σ.1 y.1 6 := c2
    rw [e2, v6, nlt (by omega) (by omega)] at c2
    refine kjZ_y rfl rfl 2 _ _ _ _ ty ?_
    refine kjZ_y rfl rfl 1 _ _ _ _ ty ?_
    refine And.intro rfl (And.intro (Or.inl rfl) ?_)
    refine ⟨rfl, ?_⟩
    rw [List.getD_eq_getElem?_getD, List.getElem?_eq_none (by omega)]; rfl
end KBIT
