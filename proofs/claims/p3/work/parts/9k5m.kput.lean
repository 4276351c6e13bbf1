/-! SET and its like: a text is put. -/
theorem ovT_all (a : List Int32) : ovT 0 a (stT a.length []) = a := by
  unfold ovT
  rw [List.take_zero, List.drop_eq_nil_of_le (by rw [stT_len]; omega), List.append_nil]; rfl
/-- a text with a time -/
def akT (v a : List Int32) (t : Int64) : AK := (v, 0, if t = NEV then 0 else 1, if t = NEV then 0 else t, a, [])
theorem akT_end (v a : List Int32) (t : Int64) : endE (akT v a t) = t := by
  unfold endE akT
  by_cases c : t = NEV
  · show (if (if t = NEV then (0 : Int32) else 1) = 0 then NEV else _) = t
    rw [if_pos c, if_pos rfl, c]
  · show (if (if t = NEV then (0 : Int32) else 1) = 0 then NEV else (if t = NEV then 0 else t)) = t
    rw [if_neg c, if_neg c, if_neg (by decide)]
def scQ : List (Nat × Nat) := [(53, 8), (59, 16), (59, 17)]
theorem scQA : ∀ p ∈ scQ, p ∈ scA := by decide +kernel
theorem scQE : ∀ p ∈ scQ, p ∈ scE := by decide +kernel
section KPUT
variable {Y : Nat → MethodName × ByteArray} {d : Nat} {σ0 σ u : kS} {B ws nm nm' : List (List Int32)} {ks : List KC}
def puP (σ0 : kS) (B : List (List Int32)) (σ : kS) (ws nm : List (List Int32)) (ks : List KC) (v a : List Int32) (x1 x4 : Int32) (t : Int64) : kK := fun r u => r = none ∧ ∃ nm' ks', PRE nm nm' ∧ KWd σ0 B u ws nm' ks' ∧ RSD ks' ∧ SCl scQ σ u ∧
  ((t ≤ σ.2.1 59 16 ∧ σ.1 59 17 = 0 ∧ u.1 53 13 = 3 ∧ ((kyI (skA ks) v = none ∧ skA ks' = skA ks ∧ u.1 59 18 = σ.1 59 18) ∨ ∃ p, kyI (skA ks) v = some p ∧ skA ks' = rmA (skA ks) p ∧ u.1 59 18 = 1)) ∨
   ((¬ (t ≤ σ.2.1 59 16 ∧ σ.1 59 17 = 0)) ∧ u.1 53 13 = 1 ∧ u.1 53 14 = x1 ∧ u.1 53 15 = x4 ∧ u.2.1 53 16 = t ∧ u.1 59 18 = 1 ∧ skA ks' = upA (orA (skA ks) v 0).1 (orA (skA ks) v 0).2 (fun _ => akT v a t)))
theorem kx_put (ty : kTY σ) (w : KWd σ0 B σ ws nm ks) (hr : RSD ks) (hB : BOK B ws) {v a : List Int32} {i : Nat} (hv : ws[1]? = some v) (ha : ws[i]? = some a) (hal : a.length ≤ 16384) (hk1 : ks.length + 1 ≤ 2600) (hcap : xtA (skA ks) + 16384 ≤ 98304) (t : Int64) (x1 x4 : Int32) (e1 : x1 = nI i) (hx4 : x4 = 0 ∨ x4 = 1) :
    kjY kPP (kQQ Y) (d + 6) 169 0 (mjL0 7 [.ref 67, .int x1, .long t, .int x4]) [] σ (puP σ0 B σ ws nm ks v a x1 x4 t) := by
  refine kjZ_y rfl rfl 4 _ _ _ _ ty ?_
  refine (And.intro (ty.k (by decide) rfl) (And.intro (Nat.le_of_ble_eq_true rfl) (And.intro (Or.inl ⟨(Nat.le_of_ble_eq_true rfl), (ty.k (by decide) rfl)⟩) (And.intro (Nat.le_of_ble_eq_true rfl) (And.intro (Nat.le_of_ble_eq_true rfl) (kjY_mono ty (fun q_ u1 ty1 xu1 h_ => ?_) (kx_id ty w hB hv _ rfl)))))))
  obtain ⟨k, nm1, rfl, p1, p2, w1, s1⟩ := h_
  intro _ _
  refine kjZ_y rfl rfl 5 _ _ _ _ ty1 ?_
  refine (And.intro (Nat.le_of_ble_eq_true rfl) (And.intro (ty1.k (by decide) rfl) (And.intro (Nat.le_of_ble_eq_true rfl) (And.intro (Or.inl ⟨(Nat.le_of_ble_eq_true rfl), (ty1.k (by decide) rfl)⟩) (And.intro (Nat.le_of_ble_eq_true rfl) (And.intro (Nat.le_of_ble_eq_true rfl) (kjY_mono ty1 (fun q_ u2 ty2 xu2 h_ => ?_) (kx_isPast ty1 _))))))))
  obtain ⟨rfl, q⟩ := h_
  intro _ _
  rw [(s1 (59, 16) (by decide)).2.1, (s1 (59, 17) (by decide)).1] at q
  rcases q with ⟨rfl, qa, qb⟩ | ⟨rfl, qn⟩
  · refine kjZ_y rfl rfl 1 _ _ _ _ ty2 ?_
    refine And.intro (fun c => ?_) (fun c => ?_)
    · exact absurd (show (1 : Int32) = 0 from c) (by decide)
    refine kjZ_y rfl rfl 4 _ _ _ _ ty2 ?_
    refine (And.intro (ty2.k (by decide) rfl) (And.intro (ty2.k (by decide) rfl) (And.intro (Or.inl rfl) (fun ty2' => ?_))))
    have go : ∀ z, kTY z → z = (mjIu u2.1 53 13 (Int32.ofInt 3), u2.2) → kjY kPP (kQQ Y) (d + 6) 169 14 [some (.ref 67), some (.int x1), some (.long t), none, some (.int x4), some (.int (nI k)), none] [] z (puP σ0 B σ ws nm ks v a x1 x4 t) := by
      intro z tz ez
      have wz : KWd σ0 B z ws nm1 ks := by rw [ez]; exact w1.pi ty2 (by decide)
      have sz : SCl scQ u2 z := by rw [ez]; exact SCl.i (by decide +kernel)
      have sc : SCl [(59, 18)] u2 z := by rw [ez]; exact SCl.i (by decide +kernel)
      have ez3 : z.1 53 13 = 3 := by rw [ez]; show mjIu u2.1 53 13 (Int32.ofInt 3) 53 13 = 3; rw [mjIu_p]; rfl
      refine kjZ_y rfl rfl 4 _ _ _ _ tz ?_
      refine (And.intro (tz.k (by decide) rfl) (And.intro (Nat.le_of_ble_eq_true rfl) (And.intro (Or.inl ⟨(Nat.le_of_ble_eq_true rfl), (tz.k (by decide) rfl)⟩) (And.intro (Nat.le_of_ble_eq_true rfl) (And.intro (Nat.le_of_ble_eq_true rfl) (kjY_mono tz (fun q_ u5 ty5 xu5 h_ => ?_) (kx_remove tz wz p1 _ rfl)))))))
      obtain ⟨s5, q6⟩ := h_
      intro _ _
      have ez5 := (s5 (53, 13) (by decide)).1.trans ez3
      have sQ := ((s1.sub scQA).tr sz).tr (s5.sub scQE)
      rcases q6 with ⟨rfl, q6, w5, s6⟩ | ⟨rfl, P, y, Q, g0, g1, w5, g2⟩
      · refine kjZ_y rfl rfl 2 _ _ _ _ ty5 ?_
        refine And.intro rfl (And.intro rfl ?_)
        refine ⟨rfl, nm1, ks, p2, w5, hr, sQ, Or.inl ⟨qa, qb, ez5, Or.inl ⟨q6, rfl, ?_⟩⟩⟩
        exact (s6 (59, 18) (by decide)).1.trans ((sc (59, 18) (by decide)).1.trans (s1 (59, 18) (by decide)).1)
      · subst g0
        refine kjZ_y rfl rfl 2 _ _ _ _ ty5 ?_
        refine And.intro rfl (And.intro rfl ?_)
        refine ⟨rfl, nm1, P ++ Q, p2, w5, hr.two.1, sQ, Or.inl ⟨qa, qb, ez5, Or.inr ⟨P.length, g1, ?_, g2⟩⟩⟩
        rw [skA_app, skA_app, skA_cons, ← skA_len P, rmA_at]
    exact go _ ty2' rfl
  · refine kjZ_y rfl rfl 1 _ _ _ _ ty2 ?_
    refine And.intro (fun c => ?_) (fun c => ?_)
    rotate_left
    · exact absurd rfl c
    refine kjZ_y rfl rfl 16 _ _ _ _ ty2 ?_
    refine (And.intro (ty2.k (by decide) rfl) (And.intro (ty2.k (by decide) rfl) (And.intro (Or.inl rfl) (fun ty2' => (And.intro (ty2'.k (by decide) rfl) (And.intro (ty2'.k (by decide) rfl) (And.intro (Or.inl rfl) (fun ty2'' => (And.intro (ty2''.k (by decide) rfl) (And.intro (ty2''.k (by decide) rfl) (And.intro (Or.inr ⟨rfl, hx4⟩) (fun ty2''' => (And.intro (ty2'''.k (by decide) rfl) (And.intro (ty2'''.k (by decide) rfl) (And.intro rfl (fun ty2'''' => ?_))))))))))))))))
    have wz0 := (((w1.pi ty2 (h := 53) (x := 13) (v := Int32.ofInt 1) (by decide)).pi ty2' (h := 53) (x := 14) (v := x1) (by decide)).pi ty2'' (h := 53) (x := 15) (v := x4) (by decide)).pl ty2''' (h := 53) (x := 16) (v := t) (by decide)
    have go : ∀ z, kTY z → z = (mjIu (mjIu (mjIu u2.1 53 13 (Int32.ofInt 1)) 53 14 x1) 53 15 x4, mjLu u2.2.1 53 16 t, u2.2.2) → kjY kPP (kQQ Y) (d + 6) 169 36 [some (.ref 67), some (.int x1), some (.long t), none, some (.int x4), some (.int (nI k)), none] [] z (puP σ0 B σ ws nm ks v a x1 x4 t) := by
      intro z tz ez
      have wz : KWd σ0 B z ws nm1 ks := by rw [ez]; exact wz0
      have sz : SCl scQ u2 z := by
        rw [ez]
        exact (((SCl.i (h := 53) (x := 13) (v := Int32.ofInt 1) (by decide +kernel)).tr (SCl.i (h := 53) (x := 14) (v := x1) (by decide +kernel))).tr (SCl.i (h := 53) (x := 15) (v := x4) (by decide +kernel))).tr (SCl.l (h := 53) (x := 16) (v := t) (by decide +kernel))
      have z13 : z.1 53 13 = 1 := by
        rw [ez]; show mjIu (mjIu (mjIu u2.1 53 13 (Int32.ofInt 1)) 53 14 x1) 53 15 x4 53 13 = 1
        rw [mjIu_q (by decide), mjIu_q (by decide), mjIu_p]; rfl
      have z14 : z.1 53 14 = x1 := by
        rw [ez]; show mjIu (mjIu (mjIu u2.1 53 13 (Int32.ofInt 1)) 53 14 x1) 53 15 x4 53 14 = x1
        rw [mjIu_q (by decide), mjIu_p]
      have z15 : z.1 53 15 = x4 := by
        rw [ez]; show mjIu (mjIu (mjIu u2.1 53 13 (Int32.ofInt 1)) 53 14 x1) 53 15 x4 53 15 = x4
        rw [mjIu_p]
      have z16 : z.2.1 53 16 = t := by
        rw [ez]; show mjLu u2.2.1 53 16 t 53 16 = t; rw [mjLu_p]
      refine kjZ_y rfl rfl 5 _ _ _ _ tz ?_
      refine (And.intro (tz.k (by decide) rfl) (And.intro (Nat.le_of_ble_eq_true rfl) (And.intro (Or.inl ⟨(Nat.le_of_ble_eq_true rfl), (tz.k (by decide) rfl)⟩) (And.intro (Nat.le_of_ble_eq_true rfl) (And.intro (Nat.le_of_ble_eq_true rfl) (kjY_mono tz (fun q_ u3 ty3 xu3 h_ => ?_) (kx_fresh tz wz p1 (s := 0) (by decide) (fun _ => hk1) _ _ rfl rfl)))))))
      obtain ⟨P, x, Q, rfl, w3, s3, g1, g2, g3, g4⟩ := h_
      intro _ _
      have hs : x.2.2.2.2.2.2.1 = 0 := by rw [g2]; rfl
      have hx : x.2.2.2.2.2.2.2.2.2.1 = [] := by rw [g2]
      have hnx : x.2.2.2.2.2.1 = v := by rw [g2]
      have kv := (w3.tz hs).2.2
      have hPQ : xtA (skA (P ++ x :: Q)) + 16384 ≤ 98304 := by
        rw [xtA_at, if_pos hs, hx]
        rcases g4 with ⟨y, g5, -⟩ | ⟨g5, -⟩
        · rw [g5, xtA_at] at hcap; show _ + 0 + _ + _ ≤ _; omega
        · rw [g5, xtA_app] at hcap; show _ + 0 + _ + _ ≤ _; omega
      have hrs : RSD (P ++ Q) := by
        rcases g4 with ⟨y, g5, -⟩ | ⟨g5, -⟩
        · rw [g5] at hr; exact hr.two.1
        · rw [← g5]; exact hr
      have eor : upA (orA (skA ks) v 0).1 (orA (skA ks) v 0).2 (fun _ => akT v a t) = skA P ++ akT v a t :: skA Q := by
        unfold orA
        rcases g4 with ⟨y, g5, -, g7, -⟩ | ⟨g5, g6, g7, -⟩
        · rw [g7]; show upA (skA ks) P.length _ = _
          rw [g5, skA_app, skA_cons, ← skA_len P, upA_at]
        · rw [g6]; show upA (inA (skA ks) (plF (anm (skA ks)) v) (v, 0, 0, 0, [], [])) (plF (anm (skA ks)) v) _ = _
          rw [← g7, g5, skA_app]
          unfold inA
          have el : P.length = (skA P).length := (skA_len P).symm
          rw [el, List.take_left, List.drop_left, upA_at]
      refine kjZ_y rfl rfl 7 _ _ _ _ ty3 ?_
      refine (And.intro (Nat.le_of_ble_eq_true rfl) (And.intro (ty3.k (by decide) rfl) (And.intro (Nat.le_of_ble_eq_true rfl) (And.intro (Or.inl ⟨(Nat.le_of_ble_eq_true rfl), (ty3.k (by decide) rfl)⟩) (And.intro (Nat.le_of_ble_eq_true rfl) (And.intro (Nat.le_of_ble_eq_true rfl) (kjY_mono ty3 (fun q_ u4 ty4 xu4 h_ => ?_) (kx_lengthOf ty3 w3 ha _ e1))))))))
      obtain ⟨rfl, rfl⟩ := h_
      intro _ _
      refine kjZ_y rfl rfl 1 _ _ _ _ ty4 ?_
      refine (And.intro (Nat.le_of_ble_eq_true rfl) (And.intro (Or.inl ⟨(Nat.le_of_ble_eq_true rfl), (ty4.k (by decide) rfl)⟩) (And.intro (Nat.le_of_ble_eq_true rfl) (And.intro (Nat.le_of_ble_eq_true rfl) (kjY_mono ty4 (fun q_ u5 ty5 xu5 h_ => ?_) (kx_stretch ty4 w3 hs (m := a.length) hal hPQ _ rfl))))))
      obtain ⟨rfl, w5, s5⟩ := h_
      intro _ _
      have kv5 : (u5.2.2.2.1 x.1).1 = 11 := xu5.k ty4 kv (by decide)
      refine kjZ_y rfl rfl 5 _ _ _ _ ty5 ?_
      refine (And.intro (Nat.le_of_ble_eq_true rfl) (And.intro (Or.inl ⟨(Nat.le_of_ble_eq_true rfl), (ty5.k (by decide) rfl)⟩) (And.intro (Nat.le_of_ble_eq_true rfl) (And.intro (Nat.le_of_ble_eq_true rfl) (kjY_mono ty5 (fun q_ u6 ty6 xu6 h_ => ?_) (kx_overlayA (y := mkK x (txG (stT a.length) x.2.2.2.2.2)) ty5 w5 hs (wkO_mk _ _) ha (p := 0) (by show 0 + a.length ≤ (stT _ _).length; rw [stT_len]; omega) _ _ rfl e1))))))
      obtain ⟨rfl, w6, s6⟩ := h_
      intro _ _
      have kv6 : (u6.2.2.2.1 x.1).1 = 11 := xu6.k ty5 kv5 (by decide)
      have ek : mkK (mkK x (txG (stT a.length) x.2.2.2.2.2)) (txG (ovT 0 a) (mkK x (txG (stT a.length) x.2.2.2.2.2)).2.2.2.2.2) = mkK x (v, 0, 0, 0, a, []) := by
        rw [g2]
        show mkK x (v, nI 0, 0, 0, ovT 0 a (stT a.length []), []) = _
        rw [ovT_all]; rfl
      rw [ek] at w6
      refine kjZ_y rfl rfl 5 _ _ _ _ ty6 ?_
      refine (And.intro (ty6.k (by decide) rfl) (And.intro (Nat.le_of_ble_eq_true rfl) (And.intro (Or.inl ⟨(Nat.le_of_ble_eq_true rfl), (ty6.k (by decide) rfl)⟩) (And.intro (Nat.le_of_ble_eq_true rfl) (And.intro (Nat.le_of_ble_eq_true rfl) (kjY_mono ty6 (fun q_ u7 ty7 xu7 h_ => ?_) (kx_ends (y := mkK x (v, 0, 0, 0, a, [])) ty6 w6 _ (a := akT v a t) ⟨rfl, rfl, rfl⟩ (akT_end v a t))))))))
      obtain ⟨rfl, w7, s7⟩ := h_
      intro _ _
      have kv7 : (u7.2.2.2.1 x.1).1 = 11 := xu7.k ty6 kv6 (by decide)
      refine kjZ_y rfl rfl 5 _ _ _ _ ty7 ?_
      refine (And.intro (ty7.k (by decide) rfl) (And.intro (Nat.le_of_ble_eq_true rfl) (And.intro (Or.inl ⟨(Nat.le_of_ble_eq_true rfl), (ty7.k (by decide) rfl)⟩) (And.intro (Nat.le_of_ble_eq_true rfl) (And.intro (Nat.le_of_ble_eq_true rfl) (kjY_mono ty7 (fun q_ u8 ty8 xu8 h_ => ?_) (kx_settle (x := teK (mkK x (v, 0, 0, 0, a, [])) (akT v a t)) ty7 w7 (k := k) p1 _ rfl)))))))
      obtain ⟨q9, q9b⟩ := h_
      intro _ _
      have sAll := (s3.tr s5).tr (s6.tr s7)
      have hwk : wkO (teK (mkK x (v, 0, 0, 0, a, [])) (akT v a t)) := rfl
      have hem : ¬ emB (teK (mkK x (v, 0, 0, 0, a, [])) (akT v a t)) := fun y => y.1 rfl
      have sE := q9b.1
      obtain ⟨rfl, nmA, ksA, pA, wA, rA, eA, cA, sA⟩ := cd_se (σ := u7) PRE.rf SCl.rf ⟨q9, q9b⟩ hwk hrs (fun z => absurd z hem) (fun _ => rfl)
      refine kjZ_y rfl rfl 1 _ _ _ _ ty8 ?_
      refine And.intro rfl (And.intro rfl ?_)
      refine ⟨rfl, nmA, ksA, p2.tr pA, wA, rA, (((s1.sub scQA).tr sz).tr (sAll.sub scQA)).tr (sE.sub scQE), Or.inr ⟨qn, ?_, ?_, ?_, ?_, cA, ?_⟩⟩
      · exact (sE (53, 13) (by decide)).1.trans ((sAll (53, 13) (by decide)).1.trans z13)
      · exact (sE (53, 14) (by decide)).1.trans ((sAll (53, 14) (by decide)).1.trans z14)
      · exact (sE (53, 15) (by decide)).1.trans ((sAll (53, 15) (by decide)).1.trans z15)
      · exact (sE (53, 16) (by decide)).2.1.trans ((sAll (53, 16) (by decide)).2.1.trans z16)
      · rw [eA, eor, skA_app, skA_cons]; rfl
    exact go _ ty2'''' rfl
end KPUT
