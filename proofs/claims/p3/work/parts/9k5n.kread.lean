/-! GET and its like; GETSET, SETNX, SETEX. -/
section KREAD
variable {Y : Nat → MethodName × ByteArray} {d : Nat} {σ0 σ u : kS} {B ws nm nm' : List (List Int32)} {ks : List KC}
theorem kx_tell0 (ty : kTY σ) (w : KWd σ0 B σ ws nm ks) : kjY kPP (kQQ Y) (d + 6) 163 0 (mjL0 2 [.ref 67, .null]) [] σ (wP σ0 B σ ws nm ks) := by
  obtain ⟨b, hb, eb⟩ := w.2.2.2.2.2.2.1
  have kb := ob_k ty (ANn_b b (ANb_n b hb)).1
  refine kjZ_y rfl rfl 6 _ _ _ _ ty ?_
  refine (And.intro (ty.k (by decide) rfl) (And.intro (ty.k (by decide) rfl) (Exists.intro _ (And.intro eb (And.intro (Nat.le_of_ble_eq_true rfl) (And.intro (Or.inl ⟨(Nat.le_of_ble_eq_true rfl), (by assumption)⟩) (And.intro (Nat.le_of_ble_eq_true rfl) (And.intro (Nat.le_of_ble_eq_true rfl) (kjY_mono ty (fun q_ u1 ty1 xu1 h_ => ?_) (kx_nil ty w hb))))))))))
  obtain ⟨rfl, w1⟩ := h_
  intro _ _
  refine kjZ_y rfl rfl 2 _ _ _ _ ty1 ?_
  refine And.intro rfl (And.intro rfl ?_)
  exact ⟨rfl, w1⟩
theorem kx_tell (ty : kTY σ) {P Q : List KC} {y : KC} (w : KWd σ0 B σ ws nm (P ++ y :: Q)) : kjY kPP (kQQ Y) (d + 6) 163 0 (mjL0 2 [.ref 67, .ref y.1]) [] σ (wP σ0 B σ ws nm (P ++ y :: Q)) := by
  obtain ⟨b, hb, eb⟩ := w.2.2.2.2.2.2.1
  have hbn := ANb_n b hb
  have kb := ob_k ty (ANn_b b hbn).1
  obtain ⟨k2, k3, k4, hd, k5⟩ := w.val rfl
  have kv : (σ.2.2.2.1 y.1).1 = 11 := by rw [hd]
  refine kjZ_y rfl rfl 5 _ _ _ _ ty ?_
  refine (And.intro (by assumption) (And.intro (fun c => ?_) (fun c => ?_)))
  rotate_left
  · refine kjZ_y rfl rfl 4 _ _ _ _ ty ?_
    refine (And.intro (ty.k (by decide) rfl) (And.intro (ty.k (by decide) rfl) (Exists.intro _ (And.intro eb (And.intro (Nat.le_of_ble_eq_true rfl) (And.intro (Or.inl ⟨(Nat.le_of_ble_eq_true rfl), (by assumption)⟩) (And.intro (Nat.le_of_ble_eq_true rfl) (And.intro (Nat.le_of_ble_eq_true rfl) (kjY_mono ty (fun q_ u1 ty1 xu1 h_ => ?_) (kx_nil ty w hb))))))))))
    obtain ⟨rfl, w1⟩ := h_
    intro _ _
    refine kjZ_y rfl rfl 2 _ _ _ _ ty1 ?_
    refine And.intro rfl (And.intro rfl ?_)
    exact ⟨rfl, w1⟩
  have c : σ.1 y.1 1 = nI 0 := c
  have hs : y.2.2.2.2.2.2.1 = 0 := by rw [k3, ← k5, c]; rfl
  obtain ⟨rt, NT, st, ro, ⟨f1, f2, f3⟩, ⟨v1, v6, v7, v8⟩, ⟨n1, n2, n3, n5⟩, ⟨nn1, nn2⟩, -⟩ := w.tx ty hs
  obtain ⟨l, hl⟩ := w.2.2.2.2.2.1 b hbn
  have hng : ¬ σ.2.2.1 b 1 = some rt := fun z => by
    have e := w.2.1.1 (b, 1) (ow_b (ANn_b b hbn).1) (59, 7) (by decide) (z.trans f1.symm)
    have e2 : b = 59 := congrArg Prod.fst e
    have q : ¬ 59 ∈ ANn := by decide
    exact q (e2 ▸ hbn)
  refine kjZ_y rfl rfl 11 _ _ _ _ ty ?_
  refine (And.intro (ty.k (by decide) rfl) (And.intro (ty.k (by decide) rfl) (Exists.intro _ (And.intro eb (And.intro (ty.k (by decide) rfl) (And.intro (ty.k (by decide) rfl) (Exists.intro _ (And.intro f1 (And.intro (by assumption) (And.intro (by assumption) (And.intro (Nat.le_of_ble_eq_true rfl) (And.intro (Or.inl ⟨(Nat.le_of_ble_eq_true rfl), (by assumption)⟩) (And.intro (Nat.le_of_ble_eq_true rfl) (And.intro (Nat.le_of_ble_eq_true rfl) (kjY_mono ty (fun q_ u1 ty1 xu1 h_ => ?_) (k_word ty w.2.1.1 (ANn_b b hbn).1 hl f2 (by omega) (show st + y.2.2.2.2.2.2.2.2.2.1.length ≤ NT by omega) hng _ _ v7 v6 (opQ_an hbn w.2.1.2 l)))))))))))))))))
  have q1 := h_
  intro _ _
  obtain ⟨rfl, w1⟩ := w.op ty hbn q1
  refine kjZ_y rfl rfl 1 _ _ _ _ ty1 ?_
  refine And.intro rfl (And.intro rfl ?_)
  exact ⟨rfl, w1⟩
def rdP (σ0 : kS) (B : List (List Int32)) (σ : kS) (ws nm : List (List Int32)) (ks : List KC) (v : List Int32) (j : Nat) : kK := fun r u => r = none ∧ ∃ nm' ks', PRE nm nm' ∧ KWd σ0 B u ws nm' ks' ∧ RSD ks' ∧ SCl scS σ u ∧
  ((skA ks' = skA ks ∧ u.1 59 18 = σ.1 59 18 ∧ ((¬ j = 15) ∨ rfZ (σ.1 59 17) ks j v 0 ∨ kyI (skA ks) v = none)) ∨ (j = 15 ∧ (¬ rfZ (σ.1 59 17) ks j v 0) ∧ u.1 59 18 = 1 ∧ u.1 53 13 = 3 ∧ ∃ p, kyI (skA ks) v = some p ∧ skA ks' = rmA (skA ks) p))
theorem kx_read (ty : kTY σ) (w : KWd σ0 B σ ws nm ks) (hr : RSD ks) (hB : BOK B ws) {j : Nat} (hj : CMD σ j) {v : List Int32} (hv : ws[1]? = some v) :
    kjY kPP (kQQ Y) (d + 7) 164 0 (mjL0 4 [.ref 67, .ref (1000000 + j)]) [] σ (rdP σ0 B σ ws nm ks v j) := by
  have hlen := (List.getElem?_eq_some_iff.mp hv).1
  have kj : kCm (1000000 + j) := ⟨j, hj.2, rfl⟩
  refine kjZ_y rfl rfl 6 _ _ _ _ ty ?_
  refine (And.intro (ty.k (by decide) rfl) (And.intro (Nat.le_of_ble_eq_true rfl) (And.intro (Or.inl ⟨(Nat.le_of_ble_eq_true rfl), (ty.k (by decide) rfl)⟩) (And.intro (Nat.le_of_ble_eq_true rfl) (And.intro (Nat.le_of_ble_eq_true rfl) (kjY_mono ty (fun q_ u1 ty1 xu1 h_ => ?_) (kx_refuses ty w hB hj (a := 1) (b := 1) (by omega) (by omega) (s := 0) (by decide) _ _ _ rfl rfl rfl)))))))
  obtain ⟨nm1, p1, w1, s1, q⟩ := h_
  intro _ _
  rw [rf1 w hv] at q
  have no : ∀ {z : kS} {nm9 : List (List Int32)}, PRE nm nm9 → KWd σ0 B z ws nm9 ks → SCl scA σ z → ((¬ j = 15) ∨ rfZ (σ.1 59 17) ks j v 0 ∨ kyI (skA ks) v = none) → rdP σ0 B σ ws nm ks v j none z := fun {z nm9} hp wz sz h => ⟨rfl, nm9, ks, hp, wz, hr, sz.sub scSA, Or.inl ⟨rfl, (sz (59, 18) (by decide)).1, h⟩⟩
  rcases q with ⟨rfl, q⟩ | ⟨rfl, q⟩
  · refine kjZ_y rfl rfl 1 _ _ _ _ ty1 ?_
    refine And.intro (fun c => ?_) (fun c => ?_)
    · exact absurd (show (1 : Int32) = 0 from c) (by decide)
    refine kjZ_y rfl rfl 1 _ _ _ _ ty1 ?_
    refine And.intro rfl (And.intro rfl ?_)
    exact no p1 w1 s1 (Or.inr (Or.inl q))
  refine kjZ_y rfl rfl 1 _ _ _ _ ty1 ?_
  refine And.intro (fun c => ?_) (fun c => ?_)
  rotate_left
  · exact absurd rfl c
  refine kjZ_y rfl rfl 4 _ _ _ _ ty1 ?_
  refine (And.intro (ty1.k (by decide) rfl) (And.intro (Nat.le_of_ble_eq_true rfl) (And.intro (Or.inl ⟨(Nat.le_of_ble_eq_true rfl), (ty1.k (by decide) rfl)⟩) (And.intro (Nat.le_of_ble_eq_true rfl) (And.intro (Nat.le_of_ble_eq_true rfl) (kjY_mono ty1 (fun q_ u2 ty2 xu2 h_ => ?_) (kx_id ty1 w1 hB hv _ rfl)))))))
  obtain ⟨k, nm2, rfl, p2, p3, w2, s2⟩ := h_
  intro _ _
  refine kjZ_y rfl rfl 5 _ _ _ _ ty2 ?_
  refine (And.intro (Nat.le_of_ble_eq_true rfl) (And.intro (ty2.k (by decide) rfl) (And.intro (Nat.le_of_ble_eq_true rfl) (And.intro (Or.inl ⟨(Nat.le_of_ble_eq_true rfl), (ty2.k (by decide) rfl)⟩) (And.intro (Nat.le_of_ble_eq_true rfl) (And.intro (Nat.le_of_ble_eq_true rfl) (kjY_mono ty2 (fun q_ u3 ty3 xu3 h_ => ?_) (kx_find ty2 w2 p2 _ rfl))))))))
  obtain ⟨rfl, q3⟩ := h_
  intro _ _
  have sA := s1.tr s2
  obtain ⟨b, hb, eb⟩ := w2.2.2.2.2.2.2.1
  have kb := ob_k ty3 (ANn_b b (ANb_n b hb)).1
  rcases q3 with ⟨rfl, q3⟩ | ⟨P, y, Q, rfl, f0, f1, f2⟩
  · refine kjZ_y rfl rfl 4 _ _ _ _ ty3 ?_
    refine (And.intro (Nat.le_of_ble_eq_true rfl) (And.intro ⟨(by assumption), ⟨79, by decide, rfl⟩, Or.inr rfl⟩ (And.intro (fun c => ?_) (fun c => ?_))))
    rotate_left
    · refine kjZ_y rfl rfl 8 _ _ _ _ ty3 ?_
      refine (And.intro (ty3.k (by decide) rfl) (And.intro (ty3.k (by decide) rfl) (Exists.intro _ (And.intro eb (And.intro (Nat.le_of_ble_eq_true rfl) (And.intro (Or.inl ⟨(Nat.le_of_ble_eq_true rfl), (by assumption)⟩) (And.intro (Nat.le_of_ble_eq_true rfl) (And.intro (Nat.le_of_ble_eq_true rfl) (kjY_mono ty3 (fun q_ u4 ty4 xu4 h_ => ?_) (kx_number ty3 w2 hb _))))))))))
      obtain ⟨rfl, w4, s4⟩ := h_
      intro _ _
      refine kjZ_y rfl rfl 1 _ _ _ _ ty4 ?_
      refine And.intro rfl (And.intro rfl ?_)
      exact no (p1.tr p3) w4 (sA.tr s4) (Or.inr (Or.inr q3))
    refine kjZ_y rfl rfl 3 _ _ _ _ ty3 ?_
    refine (And.intro (Nat.le_of_ble_eq_true rfl) (And.intro (Or.inl ⟨(Nat.le_of_ble_eq_true rfl), (ty3.k (by decide) rfl)⟩) (And.intro (Nat.le_of_ble_eq_true rfl) (And.intro (Nat.le_of_ble_eq_true rfl) (kjY_mono ty3 (fun q_ u4 ty4 xu4 h_ => ?_) (kx_tell0 ty3 w2))))))
    obtain ⟨rfl, w4, s4⟩ := h_
    intro _ _
    have fin := no (p1.tr p3) w4 (sA.tr s4) (Or.inr (Or.inr q3))
    refine kjZ_y rfl rfl 3 _ _ _ _ ty4 ?_
    refine And.intro ⟨(by assumption), ⟨15, by decide, rfl⟩, Or.inr rfl⟩ (And.intro (fun c2 => ?_) (fun c2 => ?_))
    · refine kjZ_y rfl rfl 1 _ _ _ _ ty4 ?_
      refine And.intro rfl (And.intro rfl ?_)
      exact fin
    · refine kjZ_y rfl rfl 2 _ _ _ _ ty4 ?_
      refine kjZ_y rfl rfl 1 _ _ _ _ ty4 ?_
      refine And.intro rfl (And.intro rfl ?_)
      exact fin
  subst f0
  obtain ⟨k2, k3, k4, hd, k5⟩ := w2.val rfl
  have kv : (u3.2.2.2.1 y.1).1 = 11 := by rw [hd]
  refine kjZ_y rfl rfl 4 _ _ _ _ ty3 ?_
  refine (And.intro (Nat.le_of_ble_eq_true rfl) (And.intro ⟨(by assumption), ⟨79, by decide, rfl⟩, Or.inr rfl⟩ (And.intro (fun c => ?_) (fun c => ?_))))
  rotate_left
  · have c : 1000000 + j = 1000000 + _ := Decidable.of_not_not (fun z => c (ac_ne.mpr z))
    refine kjZ_y rfl rfl 9 _ _ _ _ ty3 ?_
    refine (And.intro (ty3.k (by decide) rfl) (And.intro (ty3.k (by decide) rfl) (Exists.intro _ (And.intro eb (And.intro (by assumption) (And.intro (Nat.le_of_ble_eq_true rfl) (And.intro (Or.inl ⟨(Nat.le_of_ble_eq_true rfl), (by assumption)⟩) (And.intro (Nat.le_of_ble_eq_true rfl) (And.intro (Nat.le_of_ble_eq_true rfl) (kjY_mono ty3 (fun q_ u4 ty4 xu4 h_ => ?_) (kx_number ty3 w2 hb _)))))))))))
    obtain ⟨rfl, w4, s4⟩ := h_
    intro _ _
    refine kjZ_y rfl rfl 1 _ _ _ _ ty4 ?_
    refine And.intro rfl (And.intro rfl ?_)
    exact no (p1.tr p3) w4 (sA.tr s4) (Or.inl (by omega))
  refine kjZ_y rfl rfl 3 _ _ _ _ ty3 ?_
  refine (And.intro (Nat.le_of_ble_eq_true rfl) (And.intro (Or.inl ⟨(Nat.le_of_ble_eq_true rfl), (ty3.k (by decide) rfl)⟩) (And.intro (Nat.le_of_ble_eq_true rfl) (And.intro (Nat.le_of_ble_eq_true rfl) (kjY_mono ty3 (fun q_ u4 ty4 xu4 h_ => ?_) (kx_tell ty3 w2))))))
  obtain ⟨rfl, w4, s4⟩ := h_
  intro _ _
  have kv4 : (u4.2.2.2.1 y.1).1 = 11 := xu4.k ty3 kv (by decide)
  refine kjZ_y rfl rfl 3 _ _ _ _ ty4 ?_
  refine And.intro ⟨(by assumption), ⟨15, by decide, rfl⟩, Or.inr rfl⟩ (And.intro (fun c2 => ?_) (fun c2 => ?_))
  · have c2 : ¬ 1000000 + j = 1000000 + 15 := ac_ne.mp c2
    refine kjZ_y rfl rfl 1 _ _ _ _ ty4 ?_
    refine And.intro rfl (And.intro rfl ?_)
    exact no (p1.tr p3) w4 (sA.tr s4) (Or.inl (by omega))
  have c2 : 1000000 + j = 1000000 + 15 := Decidable.of_not_not (fun z => c2 (ac_ne.mpr z))
  refine kjZ_y rfl rfl 2 _ _ _ _ ty4 ?_
  refine kjZ_y rfl rfl 4 _ _ _ _ ty4 ?_
  refine (And.intro (ty4.k (by decide) rfl) (And.intro (ty4.k (by decide) rfl) (And.intro (Or.inl rfl) (fun ty4' => ?_))))
  have go : ∀ z, kTY z → z = (mjIu u4.1 53 13 (Int32.ofInt 3), u4.2) → kjY kPP (kQQ Y) (d + 7) 164 45 [some (.ref 67), some (.ref (1000000 + j)), some (.int (nI k)), some (.ref y.1)] [] z (rdP σ0 B σ ws nm (P ++ y :: Q) v j) := by
    intro z tz ez
    have wz : KWd σ0 B z ws nm2 (P ++ y :: Q) := by rw [ez]; exact w4.pi ty4 (by decide)
    have sz : SCl scS u4 z := by rw [ez]; exact SCl.i (by decide +kernel)
    have kz : (z.2.2.2.1 y.1).1 = 11 := by rw [ez]; exact kv4
    have ez3 : z.1 53 13 = 3 := by rw [ez]; show mjIu u4.1 53 13 (Int32.ofInt 3) 53 13 = 3; rw [mjIu_p]; rfl
    refine kjZ_y rfl rfl 4 _ _ _ _ tz ?_
    refine (And.intro (tz.k (by decide) rfl) (And.intro (Nat.le_of_ble_eq_true rfl) (And.intro (Or.inl ⟨(Nat.le_of_ble_eq_true rfl), (tz.k (by decide) rfl)⟩) (And.intro (Nat.le_of_ble_eq_true rfl) (And.intro (Nat.le_of_ble_eq_true rfl) (kjY_mono tz (fun q_ u5 ty5 xu5 h_ => ?_) (kx_remove tz wz p2 _ rfl)))))))
    obtain ⟨s5, q6⟩ := h_
    intro _ _
    rcases q6 with ⟨rfl, q6, -, -⟩ | ⟨rfl, P', y', Q', g0, g1, w5, g2⟩
    · rw [f2] at q6; cases q6
    refine kjZ_y rfl rfl 2 _ _ _ _ ty5 ?_
    refine And.intro rfl (And.intro rfl ?_)
    refine ⟨rfl, nm2, P' ++ Q', p1.tr p3, w5, ?_, (((sA.tr s4).sub scSA).tr sz).tr (s5.sub scSE), Or.inr ⟨by omega, q, g2, (s5 (53, 13) (by decide)).1.trans ez3, P'.length, g1, ?_⟩⟩
    · rw [g0] at hr; exact hr.two.1
    · rw [g0, skA_app, skA_app, skA_cons, ← skA_len P', rmA_at]
  exact go _ ty4' rfl
theorem k_mget_l (K : kK) (hB : BOK B ws)
    (hK : ∀ u nm' x1, kTY u → PRE nm nm' → KWd σ0 B u ws nm' ks → SCl scA σ u → kjY kPP (kQQ Y) (d + 7) 165 27 [some (.ref 67), some (.int x1)] [] u K) :
    ∀ (f i : Nat) (x1 : Int32) (nm' : List (List Int32)) (u : kS), i + f = ws.length → x1 = nI i → kTY u → PRE nm nm' → KWd σ0 B u ws nm' ks → SCl scA σ u →
    kjY kPP (kQQ Y) (d + 7) 165 11 [some (.ref 67), some (.int x1)] [] u K := by
  intro f
  induction f with
  | zero =>
    intro i x1 nm' u hi e1 tu hp wu su
    obtain ⟨-, -, -, -, ⟨h4, h1024⟩, -⟩ := wu.2.2.2.1
    refine kjZ_y rfl rfl 5 _ _ _ _ tu ?_
    refine (And.intro (tu.k (by decide) rfl) (And.intro (tu.k (by decide) rfl) (And.intro (fun c => ?_) (fun c => ?_))))
    rotate_left
    · refine absurd (show u.1 53 4 ≤ x1 from ?_) c
      rw [h4, e1, nle (by omega) (by omega)]; omega
    exact hK u nm' x1 tu hp wu su
  | succ f ih =>
    intro i x1 nm' u hi e1 tu hp wu su
    obtain ⟨-, -, -, -, ⟨h4, h1024⟩, -⟩ := wu.2.2.2.1
    obtain ⟨v, hv, hdr⟩ := drop1 hi
    refine kjZ_y rfl rfl 5 _ _ _ _ tu ?_
    refine (And.intro (tu.k (by decide) rfl) (And.intro (tu.k (by decide) rfl) (And.intro (fun c => ?_) (fun c => ?_))))
    · refine absurd (show u.1 53 4 ≤ x1 from c) ?_
      rw [h4, e1, nle (by omega) (by omega)]; omega
    refine kjZ_y rfl rfl 7 _ _ _ _ tu ?_
    refine (And.intro (tu.k (by decide) rfl) (And.intro (tu.k (by decide) rfl) (And.intro (Nat.le_of_ble_eq_true rfl) (And.intro (Or.inl ⟨(Nat.le_of_ble_eq_true rfl), (tu.k (by decide) rfl)⟩) (And.intro (Nat.le_of_ble_eq_true rfl) (And.intro (Nat.le_of_ble_eq_true rfl) (kjY_mono tu (fun q_ u1 ty1 xu1 h_ => ?_) (kx_id tu wu hB hv _ e1))))))))
    obtain ⟨k, nm2, rfl, p1, p2, w1, s1⟩ := h_
    intro _ _
    refine kjZ_y rfl rfl 1 _ _ _ _ ty1 ?_
    refine (And.intro (Nat.le_of_ble_eq_true rfl) (And.intro (Or.inl ⟨(Nat.le_of_ble_eq_true rfl), (ty1.k (by decide) rfl)⟩) (And.intro (Nat.le_of_ble_eq_true rfl) (And.intro (Nat.le_of_ble_eq_true rfl) (kjY_mono ty1 (fun q_ u2 ty2 xu2 h_ => ?_) (kx_find ty1 w1 p1 _ rfl))))))
    obtain ⟨rfl, q⟩ := h_
    intro _ _
    rcases q with ⟨rfl, q⟩ | ⟨P, y, Q, rfl, f0, f1, f2⟩
    · refine kjZ_y rfl rfl 1 _ _ _ _ ty2 ?_
      refine (And.intro (Nat.le_of_ble_eq_true rfl) (And.intro (Or.inl ⟨(Nat.le_of_ble_eq_true rfl), (ty2.k (by decide) rfl)⟩) (And.intro (Nat.le_of_ble_eq_true rfl) (And.intro (Nat.le_of_ble_eq_true rfl) (kjY_mono ty2 (fun q_ u3 ty3 xu3 h_ => ?_) (kx_tell0 ty2 w1))))))
      obtain ⟨rfl, w3, s3⟩ := h_
      intro _ _
      refine kjZ_y rfl rfl 2 _ _ _ _ ty3 ?_
      exact ih (i + 1) _ nm2 u3 (by omega) (by rw [e1]; exact nI_1 i) ty3 (hp.tr p2) w3 ((su.tr s1).tr s3)
    · subst f0
      have kv : (u2.2.2.2.1 y.1).1 = 11 := by
        obtain ⟨k2, -, -, hd, -⟩ := w1.val rfl
        rw [hd]
      refine kjZ_y rfl rfl 1 _ _ _ _ ty2 ?_
      refine (And.intro (Nat.le_of_ble_eq_true rfl) (And.intro (Or.inl ⟨(Nat.le_of_ble_eq_true rfl), (ty2.k (by decide) rfl)⟩) (And.intro (Nat.le_of_ble_eq_true rfl) (And.intro (Nat.le_of_ble_eq_true rfl) (kjY_mono ty2 (fun q_ u3 ty3 xu3 h_ => ?_) (kx_tell ty2 w1))))))
      obtain ⟨rfl, w3, s3⟩ := h_
      intro _ _
      refine kjZ_y rfl rfl 2 _ _ _ _ ty3 ?_
      exact ih (i + 1) _ nm2 u3 (by omega) (by rw [e1]; exact nI_1 i) ty3 (hp.tr p2) w3 ((su.tr s1).tr s3)
theorem kx_mget (ty : kTY σ) (w : KWd σ0 B σ ws nm ks) (hr : RSD ks) (hB : BOK B ws) (h1 : 1 ≤ ws.length) :
    kjY kPP (kQQ Y) (d + 7) 165 0 (mjL0 2 [.ref 67]) [] σ (cdP σ0 B σ ws nm ks none) := by
  obtain ⟨b, hb, eb⟩ := w.2.2.2.2.2.2.1
  have kb := ob_k ty (ANn_b b (ANb_n b hb)).1
  refine kjZ_y rfl rfl 9 _ _ _ _ ty ?_
  refine (And.intro (ty.k (by decide) rfl) (And.intro (ty.k (by decide) rfl) (Exists.intro _ (And.intro eb (And.intro (ty.k (by decide) rfl) (And.intro (ty.k (by decide) rfl) (And.intro (Nat.le_of_ble_eq_true rfl) (And.intro (Or.inl ⟨(Nat.le_of_ble_eq_true rfl), (by assumption)⟩) (And.intro (Nat.le_of_ble_eq_true rfl) (And.intro (Nat.le_of_ble_eq_true rfl) (kjY_mono ty (fun q_ u1 ty1 xu1 h_ => ?_) (kx_rowHead ty w hb _))))))))))))
  obtain ⟨rfl, w1, s1⟩ := h_
  intro _ _
  refine kjZ_y rfl rfl 2 _ _ _ _ ty1 ?_
  refine (And.intro (Nat.le_of_ble_eq_true rfl) ?_)
  refine k_mget_l (σ := σ) (nm := nm) _ hB ?_ (ws.length - 1) 1 _ nm u1 (by omega) rfl ty1 PRE.rf w1 s1
  intro u nm' x1 tu hp wu su
  refine kjZ_y rfl rfl 1 _ _ _ _ tu ?_
  refine And.intro rfl (And.intro rfl ?_)
  exact cd_no hp wu hr su.h rfl
end KREAD
