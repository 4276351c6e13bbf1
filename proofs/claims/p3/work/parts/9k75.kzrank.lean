/-! ZRANK, ZREVRANK; what a score may become. -/
section KZRANK
variable {Y : Nat → MethodName × ByteArray} {d : Nat} {σ0 σ u : kS} {B ws nm nm' : List (List Int32)} {ks : List KC}
theorem kx_zrank (ty : kTY σ) (w : KWd σ0 B σ ws nm ks) (hr : RSD ks) (hB : BOK B ws) {j : Nat} (hj : CMD σ j) {v f : List Int32} (hv : ws[1]? = some v) (h2 : ws[2]? = some f) (hS : ∀ x ∈ ks, x.2.2.2.2.2.2.1 = 4 → ZP x.2.2.2.2.2.2.2.2.2.2) (x1 : Int32) : kjY kPP (kQQ Y) (d + 7) 245 0 (mjL0 6 [.ref 75, .int x1]) [] σ (cdP σ0 B σ ws nm ks none) := by
  have hlen := (List.getElem?_eq_some_iff.mp hv).1
  refine kjZ_y rfl rfl 6 _ _ _ _ ty ?_
  refine (And.intro (ty.k (by decide) rfl) (And.intro (Nat.le_of_ble_eq_true rfl) (And.intro (Or.inl ⟨(Nat.le_of_ble_eq_true rfl), (ty.k (by decide) rfl)⟩) (And.intro (Nat.le_of_ble_eq_true rfl) (And.intro (Nat.le_of_ble_eq_true rfl) (kjY_mono ty (fun q_ u1 ty1 xu1 h_ => ?_) (kx_refuses ty w hB hj (a := 1) (b := 1) (by omega) (by omega) (s := 4) (by decide) _ _ _ rfl rfl rfl)))))))
  obtain ⟨nm1, p1, w1, s1, q⟩ := h_
  intro _ _
  rw [rf1 w hv] at q
  rcases q with ⟨rfl, q⟩ | ⟨rfl, q⟩
  · refine kjZ_y rfl rfl 1 _ _ _ _ ty1 ?_
    refine And.intro (fun c => ?_) (fun c => ?_)
    · exact absurd (show (1 : Int32) = 0 from c) (by decide)
    refine kjZ_y rfl rfl 1 _ _ _ _ ty1 ?_
    refine And.intro rfl (And.intro rfl ?_)
    exact cd_no p1 w1 hr s1.h rfl
  refine kjZ_y rfl rfl 1 _ _ _ _ ty1 ?_
  refine And.intro (fun c => ?_) (fun c => ?_)
  rotate_left
  · exact absurd rfl c
  refine kjZ_y rfl rfl 6 _ _ _ _ ty1 ?_
  refine (And.intro (ty1.k (by decide) rfl) (And.intro (ty1.k (by decide) rfl) (And.intro (Nat.le_of_ble_eq_true rfl) (And.intro (Or.inl ⟨(Nat.le_of_ble_eq_true rfl), (ty1.k (by decide) rfl)⟩) (And.intro (Nat.le_of_ble_eq_true rfl) (And.intro (Nat.le_of_ble_eq_true rfl) (kjY_mono ty1 (fun q_ u2 ty2 xu2 h_ => ?_) (kx_id ty1 w1 hB hv _ rfl))))))))
  obtain ⟨k, nm2, rfl, p2, p3, w2, s2⟩ := h_
  intro _ _
  refine kjZ_y rfl rfl 1 _ _ _ _ ty2 ?_
  refine (And.intro (Nat.le_of_ble_eq_true rfl) (And.intro (Or.inl ⟨(Nat.le_of_ble_eq_true rfl), (ty2.k (by decide) rfl)⟩) (And.intro (Nat.le_of_ble_eq_true rfl) (And.intro (Nat.le_of_ble_eq_true rfl) (kjY_mono ty2 (fun q_ u3 ty3 xu3 h_ => ?_) (kx_find ty2 w2 p2 _ rfl))))))
  obtain ⟨rfl, q3⟩ := h_
  intro _ _
  rcases q3 with ⟨rfl, q3⟩ | ⟨P, y, Q, rfl, f0, f1, f2⟩
  · refine kjZ_y rfl rfl 5 _ _ _ _ ty3 ?_
    refine (And.intro (Nat.le_of_ble_eq_true rfl) (And.intro (ty3.k (by decide) rfl) (And.intro (Nat.le_of_ble_eq_true rfl) (And.intro (Or.inl ⟨(Nat.le_of_ble_eq_true rfl), (ty3.k (by decide) rfl)⟩) (And.intro (Nat.le_of_ble_eq_true rfl) (And.intro (Nat.le_of_ble_eq_true rfl) (kjY_mono ty3 (fun q_ u4 ty4 xu4 h_ => ?_) (kx_id ty3 w2 hB h2 _ rfl))))))))
    obtain ⟨kf, nm3, rfl, p4, p5, w4, s4⟩ := h_
    intro _ _
    obtain ⟨b, hb, eb⟩ := w4.2.2.2.2.2.2.1
    refine kjZ_y rfl rfl 6 _ _ _ _ ty4 ?_
    refine (And.intro (Nat.le_of_ble_eq_true rfl) (And.intro (ty4.k (by decide) rfl) (And.intro (Nat.le_of_ble_eq_true rfl) (And.intro (Or.inl ⟨(Nat.le_of_ble_eq_true rfl), (ty4.k (by decide) rfl)⟩) (And.intro (Nat.le_of_ble_eq_true rfl) (And.intro (Nat.le_of_ble_eq_true rfl) (kjY_mono ty4 (fun q_ u5 ty5 xu5 h_ => ?_) (kx_placeOf0 ty4 _))))))))
    obtain ⟨rfl, rfl⟩ := h_
    intro _ _
    have kb := ob_k ty5 (ANn_b b (ANb_n b hb)).1
    refine kjZ_y rfl rfl 7 _ _ _ _ ty5 ?_
    refine (And.intro (Nat.le_of_ble_eq_true rfl) (And.intro (ty5.k (by decide) rfl) (And.intro (ty5.k (by decide) rfl) (Exists.intro _ (And.intro eb (And.intro (Nat.le_of_ble_eq_true rfl) (And.intro (Or.inl ⟨(Nat.le_of_ble_eq_true rfl), (by assumption)⟩) (And.intro (Nat.le_of_ble_eq_true rfl) (And.intro (Nat.le_of_ble_eq_true rfl) (kjY_mono ty5 (fun q_ u6 ty6 xu6 h_ => ?_) (kx_nil ty5 w4 hb)))))))))))
    obtain ⟨rfl, w6, s6⟩ := h_
    intro _ _
    refine kjZ_y rfl rfl 1 _ _ _ _ ty6 ?_
    refine And.intro rfl (And.intro rfl ?_)
    exact cd_no ((p1.tr p3).tr p5) w6 hr (((s1.tr s2).tr s4).tr s6).h rfl
  · subst f0
    have hs4 : y.2.2.2.2.2.2.1 = 4 := so_1 (s := 4) f2 (fun z => q (Or.inr z))
    have hs0 : ¬ y.2.2.2.2.2.2.1 = 0 := by rw [hs4]; decide
    have hZ := hS y (List.mem_append_right _ List.mem_cons_self) hs4
    have kv := (w2.sz hs0).2.2
    refine kjZ_y rfl rfl 5 _ _ _ _ ty3 ?_
    refine (And.intro (Nat.le_of_ble_eq_true rfl) (And.intro (ty3.k (by decide) rfl) (And.intro (Nat.le_of_ble_eq_true rfl) (And.intro (Or.inl ⟨(Nat.le_of_ble_eq_true rfl), (ty3.k (by decide) rfl)⟩) (And.intro (Nat.le_of_ble_eq_true rfl) (And.intro (Nat.le_of_ble_eq_true rfl) (kjY_mono ty3 (fun q_ u4 ty4 xu4 h_ => ?_) (kx_id ty3 w2 hB h2 _ rfl))))))))
    obtain ⟨kf, nm3, rfl, p4, p5, w4, s4⟩ := h_
    intro _ _
    obtain ⟨b, hb, eb⟩ := w4.2.2.2.2.2.2.1
    have kv4 := (w4.sz hs0).2.2
    refine kjZ_y rfl rfl 6 _ _ _ _ ty4 ?_
    refine (And.intro (Nat.le_of_ble_eq_true rfl) (And.intro (ty4.k (by decide) rfl) (And.intro (Nat.le_of_ble_eq_true rfl) (And.intro (Or.inl ⟨(Nat.le_of_ble_eq_true rfl), (ty4.k (by decide) rfl)⟩) (And.intro (Nat.le_of_ble_eq_true rfl) (And.intro (Nat.le_of_ble_eq_true rfl) (kjY_mono ty4 (fun q_ u5 ty5 xu5 h_ => ?_) (kx_plO ty4 w4 hs4 p4 _ rfl))))))))
    obtain ⟨rfl, rfl⟩ := h_
    intro _ _
    have kb := ob_k ty5 (ANn_b b (ANb_n b hb)).1
    refine kjZ_y rfl rfl 3 _ _ _ _ ty5 ?_
    refine (And.intro (Nat.le_of_ble_eq_true rfl) ?_)
    refine kjZ_y rfl rfl 2 _ _ _ _ ty5 ?_
    refine And.intro (fun c2 => ?_) (fun c2 => ?_)
    rotate_left
    · refine kjZ_y rfl rfl 4 _ _ _ _ ty5 ?_
      refine (And.intro (ty5.k (by decide) rfl) (And.intro (ty5.k (by decide) rfl) (Exists.intro _ (And.intro eb (And.intro (Nat.le_of_ble_eq_true rfl) (And.intro (Or.inl ⟨(Nat.le_of_ble_eq_true rfl), (by assumption)⟩) (And.intro (Nat.le_of_ble_eq_true rfl) (And.intro (Nat.le_of_ble_eq_true rfl) (kjY_mono ty5 (fun q_ u6 ty6 xu6 h_ => ?_) (kx_nil ty5 w4 hb))))))))))
      obtain ⟨rfl, w6, s6⟩ := h_
      intro _ _
      refine kjZ_y rfl rfl 1 _ _ _ _ ty6 ?_
      refine And.intro rfl (And.intro rfl ?_)
      exact cd_no ((p1.tr p3).tr p5) w6 hr (((s1.tr s2).tr s4).tr s6).h rfl
    · obtain ⟨fr, vs, e0, q0, q1, q2, q3, fs, hR, hV, a1, -, ⟨c1, c3, -⟩, -, -, hn6, -⟩ := w4.o4 hs4
      refine kjZ_y rfl rfl 5 _ _ _ _ ty5 ?_
      refine (And.intro (Nat.le_of_ble_eq_true rfl) (And.intro (Or.inl ⟨(Nat.le_of_ble_eq_true rfl), (by assumption)⟩) (And.intro (Nat.le_of_ble_eq_true rfl) (And.intro (Nat.le_of_ble_eq_true rfl) (kjY_mono ty5 (fun q_ u6 ty6 xu6 h_ => ?_) (k_vsc ty5 hR a1 _))))))
      obtain ⟨rfl, ys, rfl, -⟩ := h_
      intro _ _
      refine kjZ_y rfl rfl 2 _ _ _ _ ty6 ?_
      refine (And.intro (Nat.le_of_ble_eq_true rfl) (And.intro (Or.inl ⟨(Nat.le_of_ble_eq_true rfl), (ty6.k (by decide) rfl)⟩) (And.intro (Nat.le_of_ble_eq_true rfl) (And.intro (Nat.le_of_ble_eq_true rfl) (kjY_mono ty6 (fun q_ u7 ty7 xu7 h_ => ?_) (k_linePlace ty6 w4.2.2.1.1 hR a1 (show ¬ (4 : Nat) = 0 by decide) (q1 := q1) (q3 := q3) rfl rfl c1 c3 rfl (by omega) hZ p4 ys _ rfl))))))
      obtain ⟨rfl, jj, rfl, -⟩ := h_
      intro _ _
      have fin : ∀ (n : Int64) (l0 l4 : Value), kjY kPP (kQQ Y) (d + 7) 245 59 [some (.ref 75), some (.int x1), some (.ref y.1), some (.int (nI kf)), some l4, some (.int (nI jj))] [.long n, .ref b] u7 (cdP σ0 B σ ws nm (P ++ y :: Q) none) := by
        intro n l0 l4
        refine kjZ_y rfl rfl 1 _ _ _ _ ty7 ?_
        refine (And.intro (Nat.le_of_ble_eq_true rfl) (And.intro (Or.inl ⟨(Nat.le_of_ble_eq_true rfl), (by assumption)⟩) (And.intro (Nat.le_of_ble_eq_true rfl) (And.intro (Nat.le_of_ble_eq_true rfl) (kjY_mono ty7 (fun q_ u8 ty8 xu8 h_ => ?_) (kx_number ty7 w4 hb _))))))
        obtain ⟨rfl, w8, s8⟩ := h_
        intro _ _
        refine kjZ_y rfl rfl 1 _ _ _ _ ty8 ?_
        refine And.intro rfl (And.intro rfl ?_)
        exact cd_no ((p1.tr p3).tr p5) w8 hr (((s1.tr s2).tr s4).tr s8).h rfl
      refine kjZ_y rfl rfl 6 _ _ _ _ ty7 ?_
      refine (And.intro (Nat.le_of_ble_eq_true rfl) (And.intro (ty7.k (by decide) rfl) (And.intro (ty7.k (by decide) rfl) (Exists.intro _ (And.intro eb (And.intro (fun c3' => ?_) (fun c3' => ?_)))))))
      · refine kjZ_y rfl rfl 2 _ _ _ _ ty7 ?_
        exact fin _ .null _
      · refine kjZ_y rfl rfl 8 _ _ _ _ ty7 ?_
        refine (And.intro (by assumption) ?_)
        exact fin _ .null _
/-- GT is 4, LT is 8 -/
theorem kx_mayBe (ty : kTY σ) (a b : Int64) : kjY kPP (kQQ Y) (d + 1) 237 0 (mjL0 5 [.ref 75, .long a, .long b]) [] σ (fun r u => u = σ ∧ ((r = some (.int 1) ∧ ((¬ σ.1 75 3 &&& 4 = 0) → a < b) ∧ ((¬ σ.1 75 3 &&& 8 = 0) → b < a)) ∨ (r = some (.int 0) ∧ ¬ (((¬ σ.1 75 3 &&& 4 = 0) → a < b) ∧ ((¬ σ.1 75 3 &&& 8 = 0) → b < a))))) := by
  have no : ¬ (((¬ σ.1 75 3 &&& 4 = 0) → a < b) ∧ ((¬ σ.1 75 3 &&& 8 = 0) → b < a)) → kjY kPP (kQQ Y) (d + 1) 237 18 [some (.ref 75), some (.long a), none, some (.long b), none] [] σ (fun r u => u = σ ∧ ((r = some (.int 1) ∧ ((¬ σ.1 75 3 &&& 4 = 0) → a < b) ∧ ((¬ σ.1 75 3 &&& 8 = 0) → b < a)) ∨ (r = some (.int 0) ∧ ¬ (((¬ σ.1 75 3 &&& 4 = 0) → a < b) ∧ ((¬ σ.1 75 3 &&& 8 = 0) → b < a))))) := by
    intro h
    refine kjZ_y rfl rfl 2 _ _ _ _ ty ?_
    refine And.intro rfl (And.intro (Or.inr (Or.inl ⟨rfl, Or.inl rfl⟩)) ?_)
    exact ⟨rfl, Or.inr ⟨rfl, h⟩⟩
  have yes : (((¬ σ.1 75 3 &&& 4 = 0) → a < b) ∧ ((¬ σ.1 75 3 &&& 8 = 0) → b < a)) → kjY kPP (kQQ Y) (d + 1) 237 16 [some (.ref 75), some (.long a), none, some (.long b), none] [] σ (fun r u => u = σ ∧ ((r = some (.int 1) ∧ ((¬ σ.1 75 3 &&& 4 = 0) → a < b) ∧ ((¬ σ.1 75 3 &&& 8 = 0) → b < a)) ∨ (r = some (.int 0) ∧ ¬ (((¬ σ.1 75 3 &&& 4 = 0) → a < b) ∧ ((¬ σ.1 75 3 &&& 8 = 0) → b < a))))) := by
    intro h
    refine kjZ_y rfl rfl 3 _ _ _ _ ty ?_
    refine And.intro rfl (And.intro (Or.inr (Or.inl ⟨rfl, Or.inr rfl⟩)) ?_)
    exact ⟨rfl, Or.inl ⟨rfl, h⟩⟩
  have s8 : ((¬ σ.1 75 3 &&& 4 = 0) → a < b) → kjY kPP (kQQ Y) (d + 1) 237 8 [some (.ref 75), some (.long a), none, some (.long b), none] [] σ (fun r u => u = σ ∧ ((r = some (.int 1) ∧ ((¬ σ.1 75 3 &&& 4 = 0) → a < b) ∧ ((¬ σ.1 75 3 &&& 8 = 0) → b < a)) ∨ (r = some (.int 0) ∧ ¬ (((¬ σ.1 75 3 &&& 4 = 0) → a < b) ∧ ((¬ σ.1 75 3 &&& 8 = 0) → b < a))))) := by
    intro h
    refine kjZ_y rfl rfl 3 _ _ _ _ ty ?_
    refine (And.intro (Nat.le_of_ble_eq_true rfl) (And.intro (Or.inl ⟨(Nat.le_of_ble_eq_true rfl), (ty.k (by decide) rfl)⟩) (And.intro (Nat.le_of_ble_eq_true rfl) (And.intro (Nat.le_of_ble_eq_true rfl) (kjY_mono ty (fun q_ u1 ty1 xu1 h_ => ?_) (kx_told ty _))))))
    obtain ⟨rfl, q⟩ := h_
    intro _ _
    rcases q with ⟨rfl, q⟩ | ⟨rfl, q⟩
    · have q : ¬ u1.1 75 3 &&& 8 = 0 := q
      refine kjZ_y rfl rfl 1 _ _ _ _ ty1 ?_
      refine And.intro (fun c => ?_) (fun c => ?_)
      · exact absurd (show (1 : Int32) = 0 from c) (by decide)
      refine kjZ_y rfl rfl 4 _ _ _ _ ty1 ?_
      refine And.intro (fun c2 => ?_) (fun c2 => ?_)
      · have c2 : a ≤ b := (lg_cmp_ge _ _).mp c2
        exact no (fun z => absurd (z.2 q) (Int64.not_lt.mpr c2))
      · have c2 : b < a := Int64.not_le.mp (fun z => c2 ((lg_cmp_ge _ _).mpr z))
        exact yes ⟨h, fun _ => c2⟩
    · have q : u1.1 75 3 &&& 8 = 0 := q
      refine kjZ_y rfl rfl 1 _ _ _ _ ty1 ?_
      refine And.intro (fun c => ?_) (fun c => ?_)
      rotate_left
      · exact absurd rfl c
      exact yes ⟨h, fun z => absurd q z⟩
  refine kjZ_y rfl rfl 3 _ _ _ _ ty ?_
  refine (And.intro (Nat.le_of_ble_eq_true rfl) (And.intro (Or.inl ⟨(Nat.le_of_ble_eq_true rfl), (ty.k (by decide) rfl)⟩) (And.intro (Nat.le_of_ble_eq_true rfl) (And.intro (Nat.le_of_ble_eq_true rfl) (kjY_mono ty (fun q_ u1 ty1 xu1 h_ => ?_) (kx_told ty _))))))
  obtain ⟨rfl, q⟩ := h_
  intro _ _
  rcases q with ⟨rfl, q⟩ | ⟨rfl, q⟩
  · have q : ¬ u1.1 75 3 &&& 4 = 0 := q
    refine kjZ_y rfl rfl 1 _ _ _ _ ty1 ?_
    refine And.intro (fun c => ?_) (fun c => ?_)
    · exact absurd (show (1 : Int32) = 0 from c) (by decide)
    refine kjZ_y rfl rfl 4 _ _ _ _ ty1 ?_
    refine And.intro (fun c2 => ?_) (fun c2 => ?_)
    · have c2 : b ≤ a := (lg_cmp_le _ _).mp c2
      exact no (fun z => absurd (z.1 q) (Int64.not_lt.mpr c2))
    · have c2 : a < b := Int64.not_le.mp (fun z => c2 ((lg_cmp_le _ _).mpr z))
      exact s8 (fun _ => c2)
  · have q : u1.1 75 3 &&& 4 = 0 := q
    refine kjZ_y rfl rfl 1 _ _ _ _ ty1 ?_
    refine And.intro (fun c => ?_) (fun c => ?_)
    rotate_left
    · exact absurd rfl c
    exact s8 (fun z => absurd q z)
end KZRANK
