/-! GETSET, SETNX, SETEX. -/
section KSET2
variable {Y : Nat → MethodName × ByteArray} {d : Nat} {σ0 σ u : kS} {B ws nm nm' : List (List Int32)} {ks : List KC}
theorem puP.tr {σ1 : kS} {v a : List Int32} {x1 x4 : Int32} {t : Int64} {r : Option Value} (s : SCl [(53, 8), (59, 16), (59, 17), (59, 18)] σ σ1) (hp : PRE nm nm') (h : puP σ0 B σ1 ws nm' ks v a x1 x4 t r u) : puP σ0 B σ ws nm ks v a x1 x4 t r u := by
  obtain ⟨h1, nm9, ks9, p9, w9, r9, s9, h⟩ := h
  refine ⟨h1, nm9, ks9, hp.tr p9, w9, r9, (s.sub (by decide)).tr s9, ?_⟩
  rw [(s (59, 16) (by decide)).2.1, (s (59, 17) (by decide)).1, (s (59, 18) (by decide)).1] at h
  exact h
theorem puP.nx {v a : List Int32} {x1 x4 : Int32} {t : Int64} {r : Option Value} (h : puP σ0 B σ ws nm ks v a x1 x4 t r u) : r = none ∧ ∃ nm' ks', KWd σ0 B u ws nm' ks' ∧ ∀ u2, KWd σ0 B u2 ws nm' ks' → SCl scA u u2 → puP σ0 B σ ws nm ks v a x1 x4 t none u2 := by
  obtain ⟨h1, nm9, ks9, p9, w9, r9, s9, h⟩ := h
  refine ⟨h1, nm9, ks9, w9, fun u2 w2 s2 => ⟨rfl, nm9, ks9, p9, w2, r9, s9.tr (s2.sub scQA), ?_⟩⟩
  rw [(s2 (53, 13) (by decide)).1, (s2 (53, 14) (by decide)).1, (s2 (53, 15) (by decide)).1, (s2 (53, 16) (by decide)).2.1, (s2 (59, 18) (by decide)).1]
  exact h
theorem SCl.q {σ1 : kS} (s : SCl scA σ σ1) : SCl [(53, 8), (59, 16), (59, 17), (59, 18)] σ σ1 := s.sub (by decide +kernel)
/-- refused, or not to be done: as it was; else it is put -/
def psP (σ0 : kS) (B : List (List Int32)) (σ : kS) (ws nm : List (List Int32)) (ks : List KC) (v a : List Int32) (x1 x4 : Int32) (t : Int64) (Z : Prop) : kK := fun r u => (Z ∧ cdP σ0 B σ ws nm ks none r u) ∨ ((¬ Z) ∧ puP σ0 B σ ws nm ks v a x1 x4 t r u)
theorem kx_getSet (ty : kTY σ) (w : KWd σ0 B σ ws nm ks) (hr : RSD ks) (hB : BOK B ws) {j : Nat} (hj : CMD σ j) {v a : List Int32} (hv : ws[1]? = some v) (ha : ws[2]? = some a) (hal : a.length ≤ 16384) (hk1 : ks.length + 1 ≤ 2600) (hcap : xtA (skA ks) + 16384 ≤ 98304) :
    kjY kPP (kQQ Y) (d + 7) 173 0 (mjL0 1 [.ref 67]) [] σ (psP σ0 B σ ws nm ks v a (nI 2) 0 NEV (rfZ (σ.1 59 17) ks j v 0)) := by
  have hlen := (List.getElem?_eq_some_iff.mp hv).1
  have eV : Int64.ofInt 9223372036854775807 = NEV := by decide
  refine kjZ_y rfl rfl 6 _ _ _ _ ty ?_
  refine (And.intro (ty.k (by decide) rfl) (And.intro (Nat.le_of_ble_eq_true rfl) (And.intro (Or.inl ⟨(Nat.le_of_ble_eq_true rfl), (ty.k (by decide) rfl)⟩) (And.intro (Nat.le_of_ble_eq_true rfl) (And.intro (Nat.le_of_ble_eq_true rfl) (kjY_mono ty (fun q_ u1 ty1 xu1 h_ => ?_) (kx_refuses ty w hB hj (a := 1) (b := 1) (by omega) (by omega) (s := 0) (by decide) _ _ _ rfl rfl rfl)))))))
  obtain ⟨nm1, p1, w1, s1, q⟩ := h_
  intro _ _
  rw [rf1 w hv] at q
  rcases q with ⟨rfl, q⟩ | ⟨rfl, q⟩
  · refine kjZ_y rfl rfl 1 _ _ _ _ ty1 ?_
    refine And.intro (fun c => ?_) (fun c => ?_)
    · exact absurd (show (1 : Int32) = 0 from c) (by decide)
    refine kjZ_y rfl rfl 1 _ _ _ _ ty1 ?_
    refine And.intro rfl (And.intro rfl ?_)
    exact Or.inl ⟨q, cd_no p1 w1 hr s1.h rfl⟩
  refine kjZ_y rfl rfl 1 _ _ _ _ ty1 ?_
  refine And.intro (fun c => ?_) (fun c => ?_)
  rotate_left
  · exact absurd rfl c
  refine kjZ_y rfl rfl 7 _ _ _ _ ty1 ?_
  refine (And.intro (ty1.k (by decide) rfl) (And.intro (ty1.k (by decide) rfl) (And.intro (Nat.le_of_ble_eq_true rfl) (And.intro (Or.inl ⟨(Nat.le_of_ble_eq_true rfl), (ty1.k (by decide) rfl)⟩) (And.intro (Nat.le_of_ble_eq_true rfl) (And.intro (Nat.le_of_ble_eq_true rfl) (kjY_mono ty1 (fun q_ u2 ty2 xu2 h_ => ?_) (kx_id ty1 w1 hB hv _ rfl))))))))
  obtain ⟨k, nm2, rfl, p2, p3, w2, s2⟩ := h_
  intro _ _
  refine kjZ_y rfl rfl 1 _ _ _ _ ty2 ?_
  refine (And.intro (Nat.le_of_ble_eq_true rfl) (And.intro (Or.inl ⟨(Nat.le_of_ble_eq_true rfl), (ty2.k (by decide) rfl)⟩) (And.intro (Nat.le_of_ble_eq_true rfl) (And.intro (Nat.le_of_ble_eq_true rfl) (kjY_mono ty2 (fun q_ u3 ty3 xu3 h_ => ?_) (kx_find ty2 w2 p2 _ rfl))))))
  obtain ⟨rfl, q3⟩ := h_
  intro _ _
  have fin : ∀ z, kTY z → KWd σ0 B z ws nm2 ks → SCl scA u3 z → kjY kPP (kQQ Y) (d + 7) 173 17 [some (.ref 67)] [] z (psP σ0 B σ ws nm ks v a (nI 2) 0 NEV (rfZ (σ.1 59 17) ks j v 0)) := by
    intro z tz wz sz
    refine kjZ_y rfl rfl 5 _ _ _ _ tz ?_
    refine (And.intro (Nat.le_of_ble_eq_true rfl) (And.intro (Or.inl ⟨(Nat.le_of_ble_eq_true rfl), (tz.k (by decide) rfl)⟩) (And.intro (Nat.le_of_ble_eq_true rfl) (And.intro (Nat.le_of_ble_eq_true rfl) (kjY_mono tz (fun q_ u5 ty5 xu5 h_ => ?_) (kx_put tz wz hr hB hv ha hal hk1 hcap NEV (nI 2) 0 rfl (Or.inl rfl)))))))
    have q5 := h_
    intro _ _
    obtain ⟨rfl, nm9, ks9, w9, h9⟩ := q5.nx
    refine kjZ_y rfl rfl 1 _ _ _ _ ty5 ?_
    refine And.intro rfl (And.intro rfl ?_)
    exact Or.inr ⟨q, (h9 u5 w9 SCl.rf).tr ((s1.tr s2).tr sz).q (p1.tr p3)⟩
  rcases q3 with ⟨rfl, q3⟩ | ⟨P, y, Q, rfl, f0, f1, f2⟩
  · refine kjZ_y rfl rfl 1 _ _ _ _ ty3 ?_
    refine (And.intro (Nat.le_of_ble_eq_true rfl) (And.intro (Or.inl ⟨(Nat.le_of_ble_eq_true rfl), (ty3.k (by decide) rfl)⟩) (And.intro (Nat.le_of_ble_eq_true rfl) (And.intro (Nat.le_of_ble_eq_true rfl) (kjY_mono ty3 (fun q_ u4 ty4 xu4 h_ => ?_) (kx_tell0 ty3 w2))))))
    obtain ⟨rfl, w4, s4⟩ := h_
    intro _ _
    exact fin u4 ty4 w4 s4
  · subst f0
    have kv : (u3.2.2.2.1 y.1).1 = 11 := by
      obtain ⟨k2, -, -, hd, -⟩ := w2.val rfl
      rw [hd]
    refine kjZ_y rfl rfl 1 _ _ _ _ ty3 ?_
    refine (And.intro (Nat.le_of_ble_eq_true rfl) (And.intro (Or.inl ⟨(Nat.le_of_ble_eq_true rfl), (ty3.k (by decide) rfl)⟩) (And.intro (Nat.le_of_ble_eq_true rfl) (And.intro (Nat.le_of_ble_eq_true rfl) (kjY_mono ty3 (fun q_ u4 ty4 xu4 h_ => ?_) (kx_tell ty3 w2))))))
    obtain ⟨rfl, w4, s4⟩ := h_
    intro _ _
    exact fin u4 ty4 w4 s4
theorem fuB_iff (w : KWd σ0 B σ ws nm ks) {j : Nat} : fullB σ j ↔ fuB (σ.1 59 17) ks j := by
  unfold fullB fuB; rw [w.mem]
theorem kx_setNew (ty : kTY σ) (w : KWd σ0 B σ ws nm ks) (hr : RSD ks) (hB : BOK B ws) {j : Nat} (hj : CMD σ j) {v a : List Int32} (hv : ws[1]? = some v) (ha : ws[2]? = some a) (hal : a.length ≤ 16384) (hk1 : ks.length + 1 ≤ 2600) (hcap : xtA (skA ks) + 16384 ≤ 98304) :
    kjY kPP (kQQ Y) (d + 7) 174 0 (mjL0 2 [.ref 67]) [] σ (psP σ0 B σ ws nm ks v a (nI 2) 0 NEV (fuB (σ.1 59 17) ks j ∨ ¬ kyI (skA ks) v = none)) := by
  refine kjZ_y rfl rfl 3 _ _ _ _ ty ?_
  refine (And.intro (ty.k (by decide) rfl) (And.intro (Nat.le_of_ble_eq_true rfl) (And.intro (Or.inl ⟨(Nat.le_of_ble_eq_true rfl), (ty.k (by decide) rfl)⟩) (And.intro (Nat.le_of_ble_eq_true rfl) (And.intro (Nat.le_of_ble_eq_true rfl) (kjY_mono ty (fun q_ u1 ty1 xu1 h_ => ?_) (kx_isFull ty w hj)))))))
  obtain ⟨s1, w1, q⟩ := h_
  intro _ _
  rcases q with ⟨rfl, q⟩ | ⟨rfl, q, rfl⟩
  · refine kjZ_y rfl rfl 1 _ _ _ _ ty1 ?_
    refine And.intro (fun c => ?_) (fun c => ?_)
    · exact absurd (show (1 : Int32) = 0 from c) (by decide)
    refine kjZ_y rfl rfl 1 _ _ _ _ ty1 ?_
    refine And.intro rfl (And.intro rfl ?_)
    exact Or.inl ⟨Or.inl ((fuB_iff w).mp q), cd_no PRE.rf w1 hr s1.h rfl⟩
  rw [fuB_iff w] at q
  refine kjZ_y rfl rfl 1 _ _ _ _ ty1 ?_
  refine And.intro (fun c => ?_) (fun c => ?_)
  rotate_left
  · exact absurd rfl c
  refine kjZ_y rfl rfl 6 _ _ _ _ ty1 ?_
  refine (And.intro (ty1.k (by decide) rfl) (And.intro (ty1.k (by decide) rfl) (And.intro (Nat.le_of_ble_eq_true rfl) (And.intro (Or.inl ⟨(Nat.le_of_ble_eq_true rfl), (ty1.k (by decide) rfl)⟩) (And.intro (Nat.le_of_ble_eq_true rfl) (And.intro (Nat.le_of_ble_eq_true rfl) (kjY_mono ty1 (fun q_ u2 ty2 xu2 h_ => ?_) (kx_id ty1 w hB hv _ rfl))))))))
  obtain ⟨k, nm2, rfl, p2, p3, w2, s2⟩ := h_
  intro _ _
  refine kjZ_y rfl rfl 1 _ _ _ _ ty2 ?_
  refine (And.intro (Nat.le_of_ble_eq_true rfl) (And.intro (Or.inl ⟨(Nat.le_of_ble_eq_true rfl), (ty2.k (by decide) rfl)⟩) (And.intro (Nat.le_of_ble_eq_true rfl) (And.intro (Nat.le_of_ble_eq_true rfl) (kjY_mono ty2 (fun q_ u3 ty3 xu3 h_ => ?_) (kx_find ty2 w2 p2 _ rfl))))))
  obtain ⟨rfl, q3⟩ := h_
  intro _ _
  rcases q3 with ⟨rfl, q3⟩ | ⟨P, y, Q, rfl, f0, f1, f2⟩
  · refine kjZ_y rfl rfl 4 _ _ _ _ ty3 ?_
    refine (And.intro (Nat.le_of_ble_eq_true rfl) ?_)
    refine kjZ_y rfl rfl 2 _ _ _ _ ty3 ?_
    refine And.intro (fun c => ?_) (fun c => ?_)
    · exact absurd (show (1 : Int32) = 0 from c) (by decide)
    refine kjZ_y rfl rfl 5 _ _ _ _ ty3 ?_
    refine (And.intro (Nat.le_of_ble_eq_true rfl) (And.intro (Or.inl ⟨(Nat.le_of_ble_eq_true rfl), (ty3.k (by decide) rfl)⟩) (And.intro (Nat.le_of_ble_eq_true rfl) (And.intro (Nat.le_of_ble_eq_true rfl) (kjY_mono ty3 (fun q_ u5 ty5 xu5 h_ => ?_) (kx_put ty3 w2 hr hB hv ha hal hk1 hcap NEV (nI 2) 0 rfl (Or.inl rfl)))))))
    have q5 := h_
    intro _ _
    obtain ⟨rfl, nm9, ks9, w9, h9⟩ := q5.nx
    obtain ⟨b, hb, eb⟩ := w9.2.2.2.2.2.2.1
    have kb := ob_k ty5 (ANn_b b (ANb_n b hb)).1
    refine kjZ_y rfl rfl 5 _ _ _ _ ty5 ?_
    refine (And.intro (ty5.k (by decide) rfl) (And.intro (ty5.k (by decide) rfl) (Exists.intro _ (And.intro eb (And.intro (fun c => ?_) (fun c => ?_))))))
    · exact absurd (show (1 : Int32) = 0 from c) (by decide)
    refine kjZ_y rfl rfl 3 _ _ _ _ ty5 ?_
    refine (And.intro (Nat.le_of_ble_eq_true rfl) (And.intro (Or.inl ⟨(Nat.le_of_ble_eq_true rfl), (by assumption)⟩) (And.intro (Nat.le_of_ble_eq_true rfl) (And.intro (Nat.le_of_ble_eq_true rfl) (kjY_mono ty5 (fun q_ u6 ty6 xu6 h_ => ?_) (kx_number ty5 w9 hb _))))))
    obtain ⟨rfl, w6, s6⟩ := h_
    intro _ _
    refine kjZ_y rfl rfl 1 _ _ _ _ ty6 ?_
    refine And.intro rfl (And.intro rfl ?_)
    exact Or.inr ⟨fun z => z.elim q (fun z => z q3), (h9 u6 w6 s6).tr s2.q p3⟩
  · have kv : (u3.2.2.2.1 y.1).1 = 11 := by
      obtain ⟨k2, -, -, hd, -⟩ := w2.val f0
      rw [hd]
    obtain ⟨b, hb, eb⟩ := w2.2.2.2.2.2.2.1
    have kb := ob_k ty3 (ANn_b b (ANb_n b hb)).1
    refine kjZ_y rfl rfl 3 _ _ _ _ ty3 ?_
    refine (And.intro (Nat.le_of_ble_eq_true rfl) ?_)
    refine kjZ_y rfl rfl 2 _ _ _ _ ty3 ?_
    refine And.intro (fun c => ?_) (fun c => ?_)
    rotate_left
    · exact absurd rfl c
    refine kjZ_y rfl rfl 5 _ _ _ _ ty3 ?_
    refine (And.intro (ty3.k (by decide) rfl) (And.intro (ty3.k (by decide) rfl) (Exists.intro _ (And.intro eb (And.intro (fun c => ?_) (fun c => ?_))))))
    rotate_left
    · exact absurd rfl c
    refine kjZ_y rfl rfl 2 _ _ _ _ ty3 ?_
    refine (And.intro (Nat.le_of_ble_eq_true rfl) (And.intro (Or.inl ⟨(Nat.le_of_ble_eq_true rfl), (by assumption)⟩) (And.intro (Nat.le_of_ble_eq_true rfl) (And.intro (Nat.le_of_ble_eq_true rfl) (kjY_mono ty3 (fun q_ u6 ty6 xu6 h_ => ?_) (kx_number ty3 w2 hb _))))))
    obtain ⟨rfl, w6, s6⟩ := h_
    intro _ _
    refine kjZ_y rfl rfl 1 _ _ _ _ ty6 ?_
    refine And.intro rfl (And.intro rfl ?_)
    exact Or.inl ⟨Or.inr (by rw [f2]; exact fun z => by cases z), cd_no p3 w6 hr (s2.tr s6).h rfl⟩
end KSET2
