/-! LREM, whole. -/
section KLREM2
variable {Y : Nat → MethodName × ByteArray} {d : Nat} {σ0 σ u : kS} {B ws nm nm' : List (List Int32)} {ks : List KC}
theorem k_lrs_m (K : kK) (tu : kTY u) (x1 : Int32) (h2 : Nat) {n : Int64} (en : u.2.1 53 9 = n)
    (hK : ∀ x3 x4, (x3 = if n < 0 then 1 else 0) → x4 = lrM n → kjY kPP (kQQ Y) d 198 51 [some (.ref 70), some (.int x1), some (.ref h2), some (.int x3), none, none, none, none, none, none, none] [.long x4] u K) :
    kjY kPP (kQQ Y) d 198 23 [some (.ref 70), some (.int x1), some (.ref h2), none, none, none, none, none, none, none, none] [] u K := by
  have go : ∀ x3, (x3 = if n < 0 then 1 else 0) → kjY kPP (kQQ Y) d 198 32 [some (.ref 70), some (.int x1), some (.ref h2), none, none, none, none, none, none, none, none] [.int x3] u K := by
    intro x3 e3
    refine kjZ_y rfl rfl 7 _ _ _ _ tu ?_
    refine (And.intro (Nat.le_of_ble_eq_true rfl) (And.intro (tu.k (by decide) rfl) (And.intro (tu.k (by decide) rfl) (And.intro (fun c => ?_) (fun c => ?_)))))
    · have c : ¬ u.2.1 53 9 = 0 := fun z => c ((lg_cmp_eq _ _).mpr z)
      rw [en] at c
      refine kjZ_y rfl rfl 2 _ _ _ _ tu ?_
      refine And.intro (fun c2 => ?_) (fun c2 => ?_)
      · have c3 : ¬ n < 0 := fun z => by rw [if_pos z] at e3; exact absurd (e3.symm.trans c2) (by decide)
        refine kjZ_y rfl rfl 4 _ _ _ _ tu ?_
        refine (And.intro (tu.k (by decide) rfl) (And.intro (tu.k (by decide) rfl) ?_))
        refine hK _ (-(u.2.1 53 9)) e3 ?_
        unfold lrM; rw [if_neg c, if_neg c3, ← en]
      · have c3 : n < 0 := by
          by_cases z : n < 0
          · exact z
          · rw [if_neg z] at e3; exact absurd e3 c2
        refine kjZ_y rfl rfl 4 _ _ _ _ tu ?_
        refine (And.intro (tu.k (by decide) rfl) (And.intro (tu.k (by decide) rfl) ?_))
        refine hK _ (u.2.1 53 9) e3 ?_
        unfold lrM; rw [if_neg c, if_pos c3]; exact en
    · have c : u.2.1 53 9 = 0 := Decidable.of_not_not (fun z => c (fun y => z ((lg_cmp_eq _ _).mp y)))
      rw [en] at c
      refine kjZ_y rfl rfl 2 _ _ _ _ tu ?_
      refine hK _ (Int64.ofInt (-9223372036854775808)) e3 ?_
      unfold lrM; rw [if_pos c]; rfl
  refine kjZ_y rfl rfl 6 _ _ _ _ tu ?_
  refine (And.intro (tu.k (by decide) rfl) (And.intro (tu.k (by decide) rfl) (And.intro (fun c => ?_) (fun c => ?_))))
  · have c : ¬ u.2.1 53 9 < 0 := Int64.not_lt.mpr ((lg_cmp_ge _ _).mp c)
    rw [en] at c
    refine kjZ_y rfl rfl 1 _ _ _ _ tu ?_
    exact go _ (by rw [if_neg c]; rfl)
  · have c : u.2.1 53 9 < 0 := Int64.not_le.mp (fun z => c ((lg_cmp_ge _ _).mpr z))
    rw [en] at c
    refine kjZ_y rfl rfl 2 _ _ _ _ tu ?_
    exact go _ (by rw [if_pos c]; rfl)
theorem k_lrs_m0 (K : kK) (tu : kTY u) (x1 : Int32) {n : Int64} (en : u.2.1 53 9 = n)
    (hK : ∀ x3 x4, (x3 = if n < 0 then 1 else 0) → x4 = lrM n → kjY kPP (kQQ Y) d 198 51 [some (.ref 70), some (.int x1), some .null, some (.int x3), none, none, none, none, none, none, none] [.long x4] u K) :
    kjY kPP (kQQ Y) d 198 23 [some (.ref 70), some (.int x1), some .null, none, none, none, none, none, none, none, none] [] u K := by
  have go : ∀ x3, (x3 = if n < 0 then 1 else 0) → kjY kPP (kQQ Y) d 198 32 [some (.ref 70), some (.int x1), some .null, none, none, none, none, none, none, none, none] [.int x3] u K := by
    intro x3 e3
    refine kjZ_y rfl rfl 7 _ _ _ _ tu ?_
    refine (And.intro (Nat.le_of_ble_eq_true rfl) (And.intro (tu.k (by decide) rfl) (And.intro (tu.k (by decide) rfl) (And.intro (fun c => ?_) (fun c => ?_)))))
    · have c : ¬ u.2.1 53 9 = 0 := fun z => c ((lg_cmp_eq _ _).mpr z)
      rw [en] at c
      refine kjZ_y rfl rfl 2 _ _ _ _ tu ?_
      refine And.intro (fun c2 => ?_) (fun c2 => ?_)
      · have c3 : ¬ n < 0 := fun z => by rw [if_pos z] at e3; exact absurd (e3.symm.trans c2) (by decide)
        refine kjZ_y rfl rfl 4 _ _ _ _ tu ?_
        refine (And.intro (tu.k (by decide) rfl) (And.intro (tu.k (by decide) rfl) ?_))
        refine hK _ (-(u.2.1 53 9)) e3 ?_
        unfold lrM; rw [if_neg c, if_neg c3, ← en]
      · have c3 : n < 0 := by
          by_cases z : n < 0
          · exact z
          · rw [if_neg z] at e3; exact absurd e3 c2
        refine kjZ_y rfl rfl 4 _ _ _ _ tu ?_
        refine (And.intro (tu.k (by decide) rfl) (And.intro (tu.k (by decide) rfl) ?_))
        refine hK _ (u.2.1 53 9) e3 ?_
        unfold lrM; rw [if_neg c, if_pos c3]; exact en
    · have c : u.2.1 53 9 = 0 := Decidable.of_not_not (fun z => c (fun y => z ((lg_cmp_eq _ _).mp y)))
      rw [en] at c
      refine kjZ_y rfl rfl 2 _ _ _ _ tu ?_
      refine hK _ (Int64.ofInt (-9223372036854775808)) e3 ?_
      unfold lrM; rw [if_pos c]; rfl
  refine kjZ_y rfl rfl 6 _ _ _ _ tu ?_
  refine (And.intro (tu.k (by decide) rfl) (And.intro (tu.k (by decide) rfl) (And.intro (fun c => ?_) (fun c => ?_))))
  · have c : ¬ u.2.1 53 9 < 0 := Int64.not_lt.mpr ((lg_cmp_ge _ _).mp c)
    rw [en] at c
    refine kjZ_y rfl rfl 1 _ _ _ _ tu ?_
    exact go _ (by rw [if_neg c]; rfl)
  · have c : u.2.1 53 9 < 0 := Int64.not_le.mp (fun z => c ((lg_cmp_ge _ _).mpr z))
    rw [en] at c
    refine kjZ_y rfl rfl 2 _ _ _ _ tu ?_
    exact go _ (by rw [if_pos c]; rfl)
theorem kx_lremC (ty : kTY σ) (w : KWd σ0 B σ ws nm ks) (hr : RSD ks) (hB : BOK B ws) {j : Nat} (hj : CMD σ j) {v a2 piv : List Int32} (hv : ws[1]? = some v) (h2 : ws[2]? = some a2) (h3 : ws[3]? = some piv) {o : Option (List AK)} (ho0 : intF a2 = none → o = none) (ho2 : rfZ (σ.1 59 17) ks j v 1 → o = none) (ho3 : ∀ a, intF a2 = some a → ¬ rfZ (σ.1 59 17) ks j v 1 → o = lrF (skA ks) v a piv) :
    kjY kPP (kQQ Y) (d + 7) 198 0 (mjL0 11 [.ref 70]) [] σ (cdP σ0 B σ ws nm ks o) := by
  have hlen := (List.getElem?_eq_some_iff.mp hv).1
  refine kjZ_y rfl rfl 4 _ _ _ _ ty ?_
  refine (And.intro (ty.k (by decide) rfl) (And.intro (Nat.le_of_ble_eq_true rfl) (And.intro (Or.inl ⟨(Nat.le_of_ble_eq_true rfl), (ty.k (by decide) rfl)⟩) (And.intro (Nat.le_of_ble_eq_true rfl) (And.intro (Nat.le_of_ble_eq_true rfl) (kjY_mono ty (fun q_ u0 ty0 xu0 h_ => ?_) (kx_lacksInteger ty w h2 _ rfl)))))))
  obtain ⟨w0, s0, q⟩ := h_
  intro _ _
  have hH := s0.sub scHB
  rcases q with ⟨a, q1, rfl, e9⟩ | ⟨q1, rfl⟩
  rotate_left
  · refine kjZ_y rfl rfl 1 _ _ _ _ ty0 ?_
    refine And.intro (fun c => ?_) (fun c => ?_)
    rotate_left
    · exact absurd (show ¬ (1 : Int32) = 0 by decide) c
    refine kjZ_y rfl rfl 1 _ _ _ _ ty0 ?_
    refine And.intro rfl (And.intro rfl ?_)
    exact cd_no PRE.rf w0 hr hH (ho0 q1)
  refine kjZ_y rfl rfl 1 _ _ _ _ ty0 ?_
  refine And.intro (fun c => ?_) (fun c => ?_)
  · exact absurd rfl c
  refine kjZ_y rfl rfl 6 _ _ _ _ ty0 ?_
  refine (And.intro (ty0.k (by decide) rfl) (And.intro (Nat.le_of_ble_eq_true rfl) (And.intro (Or.inl ⟨(Nat.le_of_ble_eq_true rfl), (ty0.k (by decide) rfl)⟩) (And.intro (Nat.le_of_ble_eq_true rfl) (And.intro (Nat.le_of_ble_eq_true rfl) (kjY_mono ty0 (fun q_ u1 ty1 xu1 h_ => ?_) (kx_refuses ty0 w0 hB (hj.sc hH) (a := 1) (b := 1) (by omega) (by omega) (s := 1) (by decide) _ _ _ rfl rfl rfl)))))))
  obtain ⟨nm1, p1, w1, s1, q⟩ := h_
  intro _ _
  rw [rf1 w0 hv, (hH (59, 17) (by decide)).1] at q
  rcases q with ⟨rfl, q⟩ | ⟨rfl, q⟩
  · refine kjZ_y rfl rfl 1 _ _ _ _ ty1 ?_
    refine And.intro (fun c => ?_) (fun c => ?_)
    · exact absurd (show (1 : Int32) = 0 from c) (by decide)
    refine kjZ_y rfl rfl 1 _ _ _ _ ty1 ?_
    refine And.intro rfl (And.intro rfl ?_)
    exact cd_no p1 w1 hr (hH.tr s1.h) (ho2 q)
  have ho := ho3 a q1 q
  have hso := fun z => q (Or.inr z)
  refine kjZ_y rfl rfl 1 _ _ _ _ ty1 ?_
  refine And.intro (fun c => ?_) (fun c => ?_)
  rotate_left
  · exact absurd rfl c
  refine kjZ_y rfl rfl 4 _ _ _ _ ty1 ?_
  refine (And.intro (ty1.k (by decide) rfl) (And.intro (Nat.le_of_ble_eq_true rfl) (And.intro (Or.inl ⟨(Nat.le_of_ble_eq_true rfl), (ty1.k (by decide) rfl)⟩) (And.intro (Nat.le_of_ble_eq_true rfl) (And.intro (Nat.le_of_ble_eq_true rfl) (kjY_mono ty1 (fun q_ u2 ty2 xu2 h_ => ?_) (kx_id ty1 w1 hB hv _ rfl)))))))
  obtain ⟨k, nm2, rfl, p2, p3, w2, s2⟩ := h_
  intro _ _
  refine kjZ_y rfl rfl 5 _ _ _ _ ty2 ?_
  refine (And.intro (Nat.le_of_ble_eq_true rfl) (And.intro (ty2.k (by decide) rfl) (And.intro (Nat.le_of_ble_eq_true rfl) (And.intro (Or.inl ⟨(Nat.le_of_ble_eq_true rfl), (ty2.k (by decide) rfl)⟩) (And.intro (Nat.le_of_ble_eq_true rfl) (And.intro (Nat.le_of_ble_eq_true rfl) (kjY_mono ty2 (fun q_ u3 ty3 xu3 h_ => ?_) (kx_find ty2 w2 p2 _ rfl))))))))
  obtain ⟨rfl, q3⟩ := h_
  intro _ _
  have sA := s1.tr s2
  have sH := hH.tr sA.h
  have e9 : u3.2.1 53 9 = a := (sA (53, 9) (by decide)).2.1.trans e9
  rcases q3 with ⟨rfl, q3⟩ | ⟨P, y, Q, rfl, f0, f1, f2⟩
  · refine kjZ_y rfl rfl 1 _ _ _ _ ty3 ?_
    refine (And.intro (Nat.le_of_ble_eq_true rfl) ?_)
    refine k_lrs_m0 _ ty3 _ e9 (fun x3 x4 e3 e4 => ?_)
    refine kjZ_y rfl rfl 5 _ _ _ _ ty3 ?_
    refine (And.intro (Nat.le_of_ble_eq_true rfl) (And.intro (ty3.k (by decide) rfl) (And.intro (Nat.le_of_ble_eq_true rfl) (And.intro (Or.inl ⟨(Nat.le_of_ble_eq_true rfl), (ty3.k (by decide) rfl)⟩) (And.intro (Nat.le_of_ble_eq_true rfl) (And.intro (Nat.le_of_ble_eq_true rfl) (kjY_mono ty3 (fun q_ u4 ty4 xu4 h_ => ?_) (kx_id ty3 w2 hB h3 _ rfl))))))))
    obtain ⟨kp, nm4, rfl, p4, p5, w4, s4⟩ := h_
    intro _ _
    refine kjZ_y rfl rfl 10 _ _ _ _ ty4 ?_
    refine (And.intro (Nat.le_of_ble_eq_true rfl) (And.intro (Nat.le_of_ble_eq_true rfl) (And.intro (Nat.le_of_ble_eq_true rfl) (And.intro (Nat.le_of_ble_eq_true rfl) ?_))))
    refine kjZ_y rfl rfl 3 _ _ _ _ ty4 ?_
    refine And.intro (fun c => ?_) (fun c => ?_)
    rotate_left
    · exact absurd (show nI 0 ≤ nI 0 from Int32.le_refl _) c
    refine kjZ_y rfl rfl 2 _ _ _ _ ty4 ?_
    refine And.intro (fun c => ?_) (fun c => ?_)
    rotate_left
    · exact absurd (show nI 0 ≤ 0 from Int32.le_refl _) c
    obtain ⟨b, hb, eb⟩ := w4.2.2.2.2.2.2.1
    have kb := ob_k ty4 (ANn_b b (ANb_n b hb)).1
    refine kjZ_y rfl rfl 6 _ _ _ _ ty4 ?_
    refine (And.intro (ty4.k (by decide) rfl) (And.intro (ty4.k (by decide) rfl) (Exists.intro _ (And.intro eb (And.intro (Nat.le_of_ble_eq_true rfl) (And.intro (Or.inl ⟨(Nat.le_of_ble_eq_true rfl), (by assumption)⟩) (And.intro (Nat.le_of_ble_eq_true rfl) (And.intro (Nat.le_of_ble_eq_true rfl) (kjY_mono ty4 (fun q_ u5 ty5 xu5 h_ => ?_) (kx_number ty4 w4 hb _))))))))))
    obtain ⟨rfl, w5, s5⟩ := h_
    intro _ _
    refine kjZ_y rfl rfl 1 _ _ _ _ ty5 ?_
    refine And.intro rfl (And.intro rfl ?_)
    refine cd_no ((p1.tr p3).tr p5) w5 hr (sH.tr (s4.tr s5).h) ?_
    rw [ho]; unfold lrF; rw [q3]
  subst f0
  have hs1 : y.2.2.2.2.2.2.1 = 1 := so_1 f2 hso
  obtain ⟨r1, r2⟩ := hr.two
  have hs0 : ¬ y.2.2.2.2.2.2.1 = 0 := by rw [hs1]; decide
  obtain ⟨z1, z2, kv⟩ := w2.sz hs0
  have eo : o = if (lrG a piv y.2.2.2.2.2.2.2.2.2.2).length = y.2.2.2.2.2.2.2.2.2.2.length then none else some (stlA (skA (P ++ y :: Q)) P.length (lrG a piv)) := by
    rw [ho]; unfold lrF; rw [f2]
    show (match (skA (P ++ y :: Q))[P.length]? with | none => none | some a => _) = _
    rw [skA_at]
  refine kjZ_y rfl rfl 1 _ _ _ _ ty3 ?_
  refine (And.intro (Nat.le_of_ble_eq_true rfl) ?_)
  refine k_lrs_m _ ty3 _ _ e9 (fun x3 x4 e3 e4 => ?_)
  refine kjZ_y rfl rfl 5 _ _ _ _ ty3 ?_
  refine (And.intro (Nat.le_of_ble_eq_true rfl) (And.intro (ty3.k (by decide) rfl) (And.intro (Nat.le_of_ble_eq_true rfl) (And.intro (Or.inl ⟨(Nat.le_of_ble_eq_true rfl), (ty3.k (by decide) rfl)⟩) (And.intro (Nat.le_of_ble_eq_true rfl) (And.intro (Nat.le_of_ble_eq_true rfl) (kjY_mono ty3 (fun q_ u4 ty4 xu4 h_ => ?_) (kx_id ty3 w2 hB h3 _ rfl))))))))
  obtain ⟨kp, nm4, rfl, p4, p5, w4, s4⟩ := h_
  intro _ _
  obtain ⟨z3, z4, kv4⟩ := w4.sz hs0
  refine kjZ_y rfl rfl 10 _ _ _ _ ty4 ?_
  refine (And.intro (Nat.le_of_ble_eq_true rfl) (And.intro (by assumption) (And.intro (Nat.le_of_ble_eq_true rfl) (And.intro (Nat.le_of_ble_eq_true rfl) (And.intro (Nat.le_of_ble_eq_true rfl) ?_)))))
  have h0 : KWd σ0 B u4 ws nm4 (P ++ mkK y (esF (fun _ => y.2.2.2.2.2.2.2.2.2.2) y.2.2.2.2.2) :: Q) := by
    show KWd σ0 B u4 ws nm4 (P ++ mkK y y.2.2.2.2.2 :: Q)
    rw [mkK_self r2.1]; exact w4
  refine k_lrs_l (d := d + 2) (σ := u4) _ hs1 p4 a (N := y.2.2.2.2.2.2.2.2.2.2.length) z4 _ x3 _ _ x4 e3 e4 rfl z3 ?_ y.2.2.2.2.2.2.2.2.2.2.length 0 0 _ _ none y.2.2.2.2.2.2.2.2.2.2 u4 (by omega) rfl rfl (lrI_0 a piv _) ty4 h0 SCl.rf
  intro u5 c x8 x9 l10 t5 e8 hc hG w5 s5
  have kv5 : (u5.2.2.2.1 y.1).1 = 11 := (w5.sz (x := mkK y (esF (fun _ => lrG a piv y.2.2.2.2.2.2.2.2.2.2) y.2.2.2.2.2)) hs0).2.2
  have w5 : KWd σ0 B u5 ws nm4 (P ++ mkK y (esF (lrG a piv) y.2.2.2.2.2) :: Q) := w5
  have sH5 := sH.tr (s4.tr s5).h
  refine kjZ_y rfl rfl 2 _ _ _ _ t5 ?_
  refine And.intro (fun c2 => ?_) (fun c2 => ?_)
  · have c2 : x8 ≤ nI 0 := c2
    rw [e8, nle (by omega) (by omega)] at c2
    have hc0 : c = 0 := by omega
    obtain ⟨b, hb, eb⟩ := w5.2.2.2.2.2.2.1
    have kb := ob_k t5 (ANn_b b (ANb_n b hb)).1
    refine kjZ_y rfl rfl 6 _ _ _ _ t5 ?_
    refine (And.intro (t5.k (by decide) rfl) (And.intro (t5.k (by decide) rfl) (Exists.intro _ (And.intro eb (And.intro (Nat.le_of_ble_eq_true rfl) (And.intro (Or.inl ⟨(Nat.le_of_ble_eq_true rfl), (by assumption)⟩) (And.intro (Nat.le_of_ble_eq_true rfl) (And.intro (Nat.le_of_ble_eq_true rfl) (kjY_mono t5 (fun q_ u6 ty6 xu6 h_ => ?_) (kx_number t5 w5 hb _))))))))))
    obtain ⟨rfl, w6, s6⟩ := h_
    intro _ _
    refine kjZ_y rfl rfl 1 _ _ _ _ ty6 ?_
    refine And.intro rfl (And.intro rfl ?_)
    have eG : lrG a piv y.2.2.2.2.2.2.2.2.2.2 = y.2.2.2.2.2.2.2.2.2.2 := lrG_eq _ _ _ (by omega)
    have w7 : KWd σ0 B u6 ws nm4 (P ++ y :: Q) := by
      have ek : mkK y (esF (lrG a piv) y.2.2.2.2.2) = y := by
        show mkK y (_, _, _, _, _, lrG a piv y.2.2.2.2.2.2.2.2.2.2) = _
        rw [eG]; exact mkK_self r2.1
      rw [ek] at w6; exact w6
    exact cd_no ((p1.tr p3).tr p5) w7 hr (sH5.tr s6.h) (by rw [eo, if_pos (by omega)])
  · have c2 : ¬ x8 ≤ nI 0 := c2
    rw [e8, nle (by omega) (by omega)] at c2
    rw [if_neg (by omega)] at eo
    refine kjZ_y rfl rfl 5 _ _ _ _ t5 ?_
    refine (And.intro (t5.k (by decide) rfl) (And.intro (Nat.le_of_ble_eq_true rfl) (And.intro (Or.inl ⟨(Nat.le_of_ble_eq_true rfl), (t5.k (by decide) rfl)⟩) (And.intro (Nat.le_of_ble_eq_true rfl) (And.intro (Nat.le_of_ble_eq_true rfl) (kjY_mono t5 (fun q_ u9 ty9 xu9 h_ => ?_) (kx_settle (x := mkK y (esF (lrG a piv) y.2.2.2.2.2)) t5 w5 (k := k) (by show nm4[k]? = some y.2.2.2.2.2.1; rw [f1]; exact p5.get p2) _ rfl)))))))
    obtain ⟨q9, q9b⟩ := h_
    intro _ _
    have kv9 : (u9.2.2.2.1 y.1).1 = 11 := xu9.k t5 kv5 (by decide)
    obtain ⟨sk1, sk2⟩ := stl_k (P := P) (Q := Q) (x := y) (lrG a piv) hs0
    obtain ⟨rfl, nmA, ksA, pA, wA, rA, eA, cA, sA2⟩ := cd_se (σ := σ) ((p1.tr p3).tr p5) (sH5.sub scGH) ⟨q9, q9b⟩ (wkO_mk _ _) r1 sk1 sk2
    obtain ⟨b, hb, eb⟩ := wA.2.2.2.2.2.2.1
    have kb := ob_k ty9 (ANn_b b (ANb_n b hb)).1
    refine kjZ_y rfl rfl 6 _ _ _ _ ty9 ?_
    refine (And.intro (ty9.k (by decide) rfl) (And.intro (ty9.k (by decide) rfl) (Exists.intro _ (And.intro eb (And.intro (Nat.le_of_ble_eq_true rfl) (And.intro (Or.inl ⟨(Nat.le_of_ble_eq_true rfl), (by assumption)⟩) (And.intro (Nat.le_of_ble_eq_true rfl) (And.intro (Nat.le_of_ble_eq_true rfl) (kjY_mono ty9 (fun q_ u10 ty10 xu10 h_ => ?_) (kx_number ty9 wA hb _))))))))))
    obtain ⟨rfl, w10, s10⟩ := h_
    intro _ _
    refine kjZ_y rfl rfl 1 _ _ _ _ ty10 ?_
    refine And.intro rfl (And.intro rfl ?_)
    exact cd_ok pA w10 rA eA ((s10 (59, 18) (by decide)).1.trans cA) (sA2.tr s10.g) eo
end KLREM2
