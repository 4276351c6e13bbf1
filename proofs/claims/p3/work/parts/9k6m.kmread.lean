/-! Members: the reads. -/
section KMREAD
variable {Y : Nat → MethodName × ByteArray} {d : Nat} {σ0 σ u : kS} {B ws nm nm' : List (List Int32)} {ks : List KC}
/-- the refusal at a read's begin; else the key -/
theorem kx_voS (ty : kTY σ) {P Q : List KC} {x : KC} (w : KWd σ0 B σ ws nm (P ++ x :: Q)) (x1 : Int32) : kjY kPP (kQQ Y) d 116 0 (mjL0 3 [.ref x.1, .int x1]) [] σ (fun v u => u = σ ∧ ∃ y : Int32, v = some (.int y)) := by
  obtain ⟨fr, vs, k, n, e, t, cs, hR, -, a1, hav, hd, -, h6, hn, -⟩ := w.op_
  refine kjY_mono ty (fun v u tu xu h => ?_) (k_voth ty hR a1 x1)
  obtain ⟨hu, y, hy, q⟩ := h
  exact ⟨hu, y, hy⟩
theorem kx_msize (ty : kTY σ) (w : KWd σ0 B σ ws nm ks) (hr : RSD ks) (hB : BOK B ws) {j : Nat} (hj : CMD σ j) {v : List Int32} (hv : ws[1]? = some v) {s : Nat} (hs4 : s ≤ 4) (x1 : Int32) (e1 : x1 = nI s) : kjY kPP (kQQ Y) (d + 7) 204 0 (mjL0 3 [.ref 71, .int x1]) [] σ (cdP σ0 B σ ws nm ks none) := by
  have hlen := (List.getElem?_eq_some_iff.mp hv).1
  refine kjZ_y rfl rfl 6 _ _ _ _ ty ?_
  refine (And.intro (ty.k (by decide) rfl) (And.intro (Nat.le_of_ble_eq_true rfl) (And.intro (Or.inl ⟨(Nat.le_of_ble_eq_true rfl), (ty.k (by decide) rfl)⟩) (And.intro (Nat.le_of_ble_eq_true rfl) (And.intro (Nat.le_of_ble_eq_true rfl) (kjY_mono ty (fun q_ u1 ty1 xu1 h_ => ?_) (kx_refuses ty w hB hj (a := 1) (b := 1) (by omega) (by omega) (s := s) hs4 _ _ _ rfl rfl e1)))))))
  obtain ⟨nm1, p1, w1, s1, q⟩ := h_
  intro _ _
  rcases q with ⟨rfl, q⟩ | ⟨rfl, q⟩
  · refine kjZ_y rfl rfl 1 _ _ _ _ ty1 ?_
    refine And.intro (fun c => ?_) (fun c => ?_)
    rotate_left
    · exact absurd (show ¬ (1 : Int32) = 0 by decide) c
    refine kjZ_y rfl rfl 1 _ _ _ _ ty1 ?_
    refine And.intro rfl (And.intro rfl ?_)
    exact cd_no p1 w1 hr s1.h rfl
  refine kjZ_y rfl rfl 1 _ _ _ _ ty1 ?_
  refine And.intro (fun c => ?_) (fun c => ?_)
  · exact absurd rfl c
  refine kjZ_y rfl rfl 6 _ _ _ _ ty1 ?_
  refine (And.intro (ty1.k (by decide) rfl) (And.intro (ty1.k (by decide) rfl) (And.intro (Nat.le_of_ble_eq_true rfl) (And.intro (Or.inl ⟨(Nat.le_of_ble_eq_true rfl), (ty1.k (by decide) rfl)⟩) (And.intro (Nat.le_of_ble_eq_true rfl) (And.intro (Nat.le_of_ble_eq_true rfl) (kjY_mono ty1 (fun q_ u2 ty2 xu2 h_ => ?_) (kx_id ty1 w1 hB hv _ rfl))))))))
  obtain ⟨k, nm2, rfl, p2, p3, w2, s2⟩ := h_
  intro _ _
  refine kjZ_y rfl rfl 1 _ _ _ _ ty2 ?_
  refine (And.intro (Nat.le_of_ble_eq_true rfl) (And.intro (Or.inl ⟨(Nat.le_of_ble_eq_true rfl), (ty2.k (by decide) rfl)⟩) (And.intro (Nat.le_of_ble_eq_true rfl) (And.intro (Nat.le_of_ble_eq_true rfl) (kjY_mono ty2 (fun q_ u3 ty3 xu3 h_ => ?_) (kx_find ty2 w2 p2 _ rfl))))))
  obtain ⟨rfl, q3⟩ := h_
  intro _ _
  obtain ⟨b, hb, eb⟩ := w2.2.2.2.2.2.2.1
  have kb := ob_k ty3 (ANn_b b (ANb_n b hb)).1
  have fin : ∀ (n : Int64) (o2 : Option Value), kjY kPP (kQQ Y) (d + 7) 204 25 [some (.ref 71), some (.int x1), o2] [.long n, .ref b] u3 (cdP σ0 B σ ws nm ks none) := by
    intro n o2
    refine kjZ_y rfl rfl 1 _ _ _ _ ty3 ?_
    refine (And.intro (Nat.le_of_ble_eq_true rfl) (And.intro (Or.inl ⟨(Nat.le_of_ble_eq_true rfl), (by assumption)⟩) (And.intro (Nat.le_of_ble_eq_true rfl) (And.intro (Nat.le_of_ble_eq_true rfl) (kjY_mono ty3 (fun q_ u5 ty5 xu5 h_ => ?_) (kx_number ty3 w2 hb _))))))
    obtain ⟨rfl, w5, s5⟩ := h_
    intro _ _
    refine kjZ_y rfl rfl 1 _ _ _ _ ty5 ?_
    refine And.intro rfl (And.intro rfl ?_)
    exact cd_no (p1.tr p3) w5 hr ((s1.tr s2).tr s5).h rfl
  rcases q3 with ⟨rfl, q3⟩ | ⟨P, y, Q, rfl, f0, f1, f2⟩
  · refine kjZ_y rfl rfl 8 _ _ _ _ ty3 ?_
    refine (And.intro (Nat.le_of_ble_eq_true rfl) (And.intro (ty3.k (by decide) rfl) (And.intro (ty3.k (by decide) rfl) (Exists.intro _ (And.intro eb ?_)))))
    exact fin _ _
  · subst f0
    have kv : (u3.2.2.2.1 y.1).1 = 11 := by
      obtain ⟨k2, -, -, hd, -⟩ := w2.val rfl
      rw [hd]
    refine kjZ_y rfl rfl 9 _ _ _ _ ty3 ?_
    refine (And.intro (Nat.le_of_ble_eq_true rfl) (And.intro (ty3.k (by decide) rfl) (And.intro (ty3.k (by decide) rfl) (Exists.intro _ (And.intro eb (And.intro (by assumption) ?_))))))
    exact fin _ _
theorem kx_mthere (ty : kTY σ) (w : KWd σ0 B σ ws nm ks) (hr : RSD ks) (hB : BOK B ws) {j : Nat} (hj : CMD σ j) {v f : List Int32} (hv : ws[1]? = some v) (h2 : ws[2]? = some f) (hS : ∀ x ∈ ks, x.2.2.2.2.2.2.1 = 2 ∨ x.2.2.2.2.2.2.1 = 3 → SP x.2.2.2.2.2.2.2.2.2.2) {s : Nat} (hs : s = 2 ∨ s = 3) (x1 : Int32) (e1 : x1 = nI s) : kjY kPP (kQQ Y) (d + 7) 205 0 (mjL0 2 [.ref 71, .int x1]) [] σ (cdP σ0 B σ ws nm ks none) := by
  have hlen := (List.getElem?_eq_some_iff.mp hv).1
  refine kjZ_y rfl rfl 6 _ _ _ _ ty ?_
  refine (And.intro (ty.k (by decide) rfl) (And.intro (Nat.le_of_ble_eq_true rfl) (And.intro (Or.inl ⟨(Nat.le_of_ble_eq_true rfl), (ty.k (by decide) rfl)⟩) (And.intro (Nat.le_of_ble_eq_true rfl) (And.intro (Nat.le_of_ble_eq_true rfl) (kjY_mono ty (fun q_ u1 ty1 xu1 h_ => ?_) (kx_refuses ty w hB hj (a := 1) (b := 1) (by omega) (by omega) (s := s) (by omega) _ _ _ rfl rfl e1)))))))
  obtain ⟨nm1, p1, w1, s1, q⟩ := h_
  intro _ _
  rcases q with ⟨rfl, q⟩ | ⟨rfl, q⟩
  · refine kjZ_y rfl rfl 1 _ _ _ _ ty1 ?_
    refine And.intro (fun c => ?_) (fun c => ?_)
    rotate_left
    · exact absurd (show ¬ (1 : Int32) = 0 by decide) c
    refine kjZ_y rfl rfl 1 _ _ _ _ ty1 ?_
    refine And.intro rfl (And.intro rfl ?_)
    exact cd_no p1 w1 hr s1.h rfl
  rw [rf1 w hv] at q
  refine kjZ_y rfl rfl 1 _ _ _ _ ty1 ?_
  refine And.intro (fun c => ?_) (fun c => ?_)
  · exact absurd rfl c
  obtain ⟨b, hb, eb1⟩ := w1.2.2.2.2.2.2.1
  have kb1 := ob_k ty1 (ANn_b b (ANb_n b hb)).1
  refine kjZ_y rfl rfl 11 _ _ _ _ ty1 ?_
  refine (And.intro (ty1.k (by decide) rfl) (And.intro (ty1.k (by decide) rfl) (Exists.intro _ (And.intro eb1 (And.intro (ty1.k (by decide) rfl) (And.intro (ty1.k (by decide) rfl) (And.intro (ty1.k (by decide) rfl) (And.intro (Nat.le_of_ble_eq_true rfl) (And.intro (Or.inl ⟨(Nat.le_of_ble_eq_true rfl), (ty1.k (by decide) rfl)⟩) (And.intro (Nat.le_of_ble_eq_true rfl) (And.intro (Nat.le_of_ble_eq_true rfl) (kjY_mono ty1 (fun q_ u2 ty2 xu2 h_ => ?_) (kx_id ty1 w1 hB hv _ rfl)))))))))))))
  obtain ⟨k, nm2, rfl, p2, p3, w2, s2⟩ := h_
  intro _ _
  have kb2 := ob_k ty2 (ANn_b b (ANb_n b hb)).1
  refine kjZ_y rfl rfl 1 _ _ _ _ ty2 ?_
  refine (And.intro (Nat.le_of_ble_eq_true rfl) (And.intro (Or.inl ⟨(Nat.le_of_ble_eq_true rfl), (ty2.k (by decide) rfl)⟩) (And.intro (Nat.le_of_ble_eq_true rfl) (And.intro (Nat.le_of_ble_eq_true rfl) (kjY_mono ty2 (fun q_ u3 ty3 xu3 h_ => ?_) (kx_find ty2 w2 p2 _ rfl))))))
  obtain ⟨rfl, q3⟩ := h_
  intro _ _
  have go : ∀ (o : Value), (∀ (u4 : kS) (nm3 : List (List Int32)) (kf : Nat), kTY u4 → nm3[kf]? = some f → PRE nm2 nm3 → KWd σ0 B u4 ws nm3 ks → SCl scA u3 u4 → kjY kPP (kQQ Y) (d + 6) 145 0 (mjL0 7 [.ref 59, o, .int (nI kf)]) [] u4 (fun r u => u = u4 ∧ ∃ z : Int32, r = some (.int z))) → (o = .null ∨ ∃ y, o = .ref y ∧ (u3.2.2.2.1 y).1 = 11) → kjY kPP (kQQ Y) (d + 7) 205 19 [some (.ref 71), some (.int x1)] [o, .ref 59, .ref b] u3 (cdP σ0 B σ ws nm ks none) := by
    intro o hp ho
    have fin : ∀ (u5 : kS) (nm3 : List (List Int32)) (z : Int32), kTY u5 → PRE nm2 nm3 → KWd σ0 B u5 ws nm3 ks → SCl scA u3 u5 → kjY kPP (kQQ Y) (d + 7) 205 24 [some (.ref 71), some (.int x1)] [.int z, .ref b] u5 (cdP σ0 B σ ws nm ks none) := by
      intro u5 nm3 z ty5 p5 w5 s5
      have kb5 := ob_k ty5 (ANn_b b (ANb_n b hb)).1
      have last : ∀ n : Int64, kjY kPP (kQQ Y) (d + 7) 205 28 [some (.ref 71), some (.int x1)] [.long n, .ref b] u5 (cdP σ0 B σ ws nm ks none) := by
        intro n
        refine kjZ_y rfl rfl 1 _ _ _ _ ty5 ?_
        refine (And.intro (Nat.le_of_ble_eq_true rfl) (And.intro (Or.inl ⟨(Nat.le_of_ble_eq_true rfl), (by assumption)⟩) (And.intro (Nat.le_of_ble_eq_true rfl) (And.intro (Nat.le_of_ble_eq_true rfl) (kjY_mono ty5 (fun q_ u6 ty6 xu6 h_ => ?_) (kx_number ty5 w5 hb _))))))
        obtain ⟨rfl, w6, s6⟩ := h_
        intro _ _
        refine kjZ_y rfl rfl 1 _ _ _ _ ty6 ?_
        refine And.intro rfl (And.intro rfl ?_)
        exact cd_no ((p1.tr p3).tr p5) w6 hr (((s1.tr s2).tr s5).tr s6).h rfl
      refine kjZ_y rfl rfl 1 _ _ _ _ ty5 ?_
      refine And.intro (fun c2 => ?_) (fun c2 => ?_)
      · refine kjZ_y rfl rfl 1 _ _ _ _ ty5 ?_
        exact last _
      · refine kjZ_y rfl rfl 2 _ _ _ _ ty5 ?_
        exact last _
    rcases ho with rfl | ⟨y, rfl, ky⟩
    · refine kjZ_y rfl rfl 4 _ _ _ _ ty3 ?_
      refine (And.intro (ty3.k (by decide) rfl) (And.intro (Nat.le_of_ble_eq_true rfl) (And.intro (Or.inl ⟨(Nat.le_of_ble_eq_true rfl), (ty3.k (by decide) rfl)⟩) (And.intro (Nat.le_of_ble_eq_true rfl) (And.intro (Nat.le_of_ble_eq_true rfl) (kjY_mono ty3 (fun q_ u4 ty4 xu4 h_ => ?_) (kx_id ty3 w2 hB h2 _ rfl)))))))
      obtain ⟨kf, nm3, rfl, p4, p5, w4, s4⟩ := h_
      intro _ _
      have kb4 := ob_k ty4 (ANn_b b (ANb_n b hb)).1
      refine kjZ_y rfl rfl 1 _ _ _ _ ty4 ?_
      refine (And.intro (Nat.le_of_ble_eq_true rfl) (And.intro (Or.inl ⟨(Nat.le_of_ble_eq_true rfl), (ty4.k (by decide) rfl)⟩) (And.intro (Nat.le_of_ble_eq_true rfl) (And.intro (Nat.le_of_ble_eq_true rfl) (kjY_mono ty4 (fun q_ u5 ty5 xu5 h_ => ?_) (hp u4 nm3 kf ty4 p4 p5 w4 s4))))))
      obtain ⟨rfl, z, rfl⟩ := h_
      intro _ _
      exact fin u5 nm3 z ty5 p5 w4 s4
    · refine kjZ_y rfl rfl 4 _ _ _ _ ty3 ?_
      refine (And.intro (ty3.k (by decide) rfl) (And.intro (Nat.le_of_ble_eq_true rfl) (And.intro (Or.inl ⟨(Nat.le_of_ble_eq_true rfl), (ty3.k (by decide) rfl)⟩) (And.intro (Nat.le_of_ble_eq_true rfl) (And.intro (Nat.le_of_ble_eq_true rfl) (kjY_mono ty3 (fun q_ u4 ty4 xu4 h_ => ?_) (kx_id ty3 w2 hB h2 _ rfl)))))))
      obtain ⟨kf, nm3, rfl, p4, p5, w4, s4⟩ := h_
      intro _ _
      have kb4 := ob_k ty4 (ANn_b b (ANb_n b hb)).1
      have ky4 : (u4.2.2.2.1 y).1 = 11 := xu4.k ty3 ky (by decide)
      refine kjZ_y rfl rfl 1 _ _ _ _ ty4 ?_
      refine (And.intro (Nat.le_of_ble_eq_true rfl) (And.intro (Or.inl ⟨(Nat.le_of_ble_eq_true rfl), (ty4.k (by decide) rfl)⟩) (And.intro (Nat.le_of_ble_eq_true rfl) (And.intro (Nat.le_of_ble_eq_true rfl) (kjY_mono ty4 (fun q_ u5 ty5 xu5 h_ => ?_) (hp u4 nm3 kf ty4 p4 p5 w4 s4))))))
      obtain ⟨rfl, z, rfl⟩ := h_
      intro _ _
      exact fin u5 nm3 z ty5 p5 w4 s4
  rcases q3 with ⟨rfl, q3⟩ | ⟨P, y, Q, rfl, f0, f1, f2⟩
  · exact go .null (fun u4 nm3 kf ty4 h1 h2 h3 h4 => kjY_mono ty4 (fun r u _ _ h => ⟨h.1, _, h.2⟩) (kx_placeOf0 ty4 _)) (Or.inl rfl)
  · subst f0
    have hs2 : y.2.2.2.2.2.2.1 = nI s := so_1 (s := s) f2 (fun z => q (Or.inr z))
    have hs23 : y.2.2.2.2.2.2.1 = 2 ∨ y.2.2.2.2.2.2.1 = 3 := by rcases hs with h | h <;> rw [hs2, h]; exact Or.inl rfl; exact Or.inr rfl
    have kv : (u3.2.2.2.1 y.1).1 = 11 := by
      obtain ⟨k2, -, -, hd, -⟩ := w2.val rfl
      rw [hd]
    exact go (.ref y.1) (fun u4 nm3 kf ty4 h1 h2 h3 h4 => kjY_mono ty4 (fun r u _ _ h => ⟨h.1, _, h.2⟩) (kx_plM ty4 h3 hs23 (hS y (List.mem_append_right _ List.mem_cons_self) hs23) h1 _ rfl)) (Or.inr ⟨y.1, rfl, kv⟩)
theorem k_mall_l (K : kK) {P Q : List KC} {x : KC} (hs : ¬ x.2.2.2.2.2.2.1 = 0) {n : Nat} (hn : n < 2 ^ 29) (x1 x2 x3 x5 : Int32) (e5 : x5 = nI n)
    (hK : ∀ u x6, kTY u → KWd σ0 B u ws nm (P ++ x :: Q) → SCl scA σ u → kjY kPP (kQQ Y) (d + 6) 206 65 [some (.ref 71), some (.int x1), some (.int x2), some (.int x3), some (.ref x.1), some (.int x5), some (.int x6)] [] u K) :
    ∀ (f i : Nat) (x6 : Int32) (u : kS), i + f = n → x6 = nI i → kTY u → KWd σ0 B u ws nm (P ++ x :: Q) → SCl scA σ u →
    kjY kPP (kQQ Y) (d + 6) 206 38 [some (.ref 71), some (.int x1), some (.int x2), some (.int x3), some (.ref x.1), some (.int x5), some (.int x6)] [] u K := by
  intro f
  induction f with
  | zero =>
    intro i x6 u hi e6 tu wu su
    obtain ⟨z1, z2, kv⟩ := wu.sz hs
    refine kjZ_y rfl rfl 3 _ _ _ _ tu ?_
    refine And.intro (fun c => ?_) (fun c => ?_)
    · exact hK u x6 tu wu su
    · refine absurd (show x5 ≤ x6 from ?_) c
      rw [e5, e6, nle (by omega) (by omega)]; omega
  | succ f ih =>
    intro i x6 u hi e6 tu wu su
    obtain ⟨z1, z2, kv⟩ := wu.sz hs
    refine kjZ_y rfl rfl 3 _ _ _ _ tu ?_
    refine And.intro (fun c => ?_) (fun c => ?_)
    · refine absurd (show x5 ≤ x6 from c) ?_
      rw [e5, e6, nle (by omega) (by omega)]; omega
    have s63 : ∀ u, kTY u → KWd σ0 B u ws nm (P ++ x :: Q) → SCl scA σ u → kjY kPP (kQQ Y) (d + 6) 206 63 [some (.ref 71), some (.int x1), some (.int x2), some (.int x3), some (.ref x.1), some (.int x5), some (.int x6)] [] u K := by
      intro u tu wu su
      have kv := (wu.sz hs).2.2
      refine kjZ_y rfl rfl 2 _ _ _ _ tu ?_
      exact ih (i + 1) _ u (by omega) (by rw [e6]; exact nI_1 i) tu wu su
    have s52 : ∀ u, kTY u → KWd σ0 B u ws nm (P ++ x :: Q) → SCl scA σ u → kjY kPP (kQQ Y) (d + 6) 206 52 [some (.ref 71), some (.int x1), some (.int x2), some (.int x3), some (.ref x.1), some (.int x5), some (.int x6)] [] u K := by
      intro u tu wu su
      have kv := (wu.sz hs).2.2
      obtain ⟨b, hb, eb⟩ := wu.2.2.2.2.2.2.1
      have kb := ob_k tu (ANn_b b (ANb_n b hb)).1
      refine kjZ_y rfl rfl 2 _ _ _ _ tu ?_
      refine And.intro (fun c2 => ?_) (fun c2 => ?_)
      · exact s63 u tu wu su
      refine kjZ_y rfl rfl 5 _ _ _ _ tu ?_
      refine (And.intro (tu.k (by decide) rfl) (And.intro (Nat.le_of_ble_eq_true rfl) (And.intro (Or.inl ⟨(Nat.le_of_ble_eq_true rfl), (by assumption)⟩) (And.intro (Nat.le_of_ble_eq_true rfl) (And.intro (Nat.le_of_ble_eq_true rfl) (kjY_mono tu (fun q_ u1 ty1 xu1 h_ => ?_) (kx_voS tu wu _)))))))
      obtain ⟨rfl, y, rfl⟩ := h_
      intro _ _
      refine kjZ_y rfl rfl 4 _ _ _ _ ty1 ?_
      refine (And.intro (ty1.k (by decide) rfl) (And.intro (ty1.k (by decide) rfl) (Exists.intro _ (And.intro eb (And.intro (Nat.le_of_ble_eq_true rfl) (And.intro (Or.inl ⟨(Nat.le_of_ble_eq_true rfl), (ty1.k (by decide) rfl)⟩) (And.intro (Nat.le_of_ble_eq_true rfl) (And.intro (Nat.le_of_ble_eq_true rfl) (kjY_mono ty1 (fun q_ u2 ty2 xu2 h_ => ?_) (kx_copyWord ty1 wu hb _))))))))))
      obtain ⟨rfl, w2, s2⟩ := h_
      intro _ _
      exact s63 u2 ty2 w2 (su.tr s2)
    obtain ⟨b, hb, eb⟩ := wu.2.2.2.2.2.2.1
    have kb := ob_k tu (ANn_b b (ANb_n b hb)).1
    refine kjZ_y rfl rfl 2 _ _ _ _ tu ?_
    refine And.intro (fun c2 => ?_) (fun c2 => ?_)
    · exact s52 u tu wu su
    refine kjZ_y rfl rfl 5 _ _ _ _ tu ?_
    refine (And.intro (tu.k (by decide) rfl) (And.intro (Nat.le_of_ble_eq_true rfl) (And.intro (Or.inl ⟨(Nat.le_of_ble_eq_true rfl), (by assumption)⟩) (And.intro (Nat.le_of_ble_eq_true rfl) (And.intro (Nat.le_of_ble_eq_true rfl) (kjY_mono tu (fun q_ u1 ty1 xu1 h_ => ?_) (kx_vat tu wu _)))))))
    obtain ⟨rfl, y, rfl, -⟩ := h_
    intro _ _
    refine kjZ_y rfl rfl 4 _ _ _ _ ty1 ?_
    refine (And.intro (ty1.k (by decide) rfl) (And.intro (ty1.k (by decide) rfl) (Exists.intro _ (And.intro eb (And.intro (Nat.le_of_ble_eq_true rfl) (And.intro (Or.inl ⟨(Nat.le_of_ble_eq_true rfl), (ty1.k (by decide) rfl)⟩) (And.intro (Nat.le_of_ble_eq_true rfl) (And.intro (Nat.le_of_ble_eq_true rfl) (kjY_mono ty1 (fun q_ u2 ty2 xu2 h_ => ?_) (kx_copyWord ty1 wu hb _))))))))))
    obtain ⟨rfl, w2, s2⟩ := h_
    intro _ _
    exact s52 u2 ty2 w2 (su.tr s2)
theorem kx_mall (ty : kTY σ) (w : KWd σ0 B σ ws nm ks) (hr : RSD ks) (hB : BOK B ws) {j : Nat} (hj : CMD σ j) {v : List Int32} (hv : ws[1]? = some v) {s : Nat} (hs : s = 2 ∨ s = 3) (x1 x2 x3 : Int32) (e1 : x1 = nI s) : kjY kPP (kQQ Y) (d + 7) 206 0 (mjL0 7 [.ref 71, .int x1, .int x2, .int x3]) [] σ (cdP σ0 B σ ws nm ks none) := by
  have hlen := (List.getElem?_eq_some_iff.mp hv).1
  refine kjZ_y rfl rfl 6 _ _ _ _ ty ?_
  refine (And.intro (ty.k (by decide) rfl) (And.intro (Nat.le_of_ble_eq_true rfl) (And.intro (Or.inl ⟨(Nat.le_of_ble_eq_true rfl), (ty.k (by decide) rfl)⟩) (And.intro (Nat.le_of_ble_eq_true rfl) (And.intro (Nat.le_of_ble_eq_true rfl) (kjY_mono ty (fun q_ u1 ty1 xu1 h_ => ?_) (kx_refuses ty w hB hj (a := 1) (b := 1) (by omega) (by omega) (s := s) (by omega) _ _ _ rfl rfl e1)))))))
  obtain ⟨nm1, p1, w1, s1, q⟩ := h_
  intro _ _
  rw [rf1 w hv] at q
  rcases q with ⟨rfl, q⟩ | ⟨rfl, q⟩
  · refine kjZ_y rfl rfl 1 _ _ _ _ ty1 ?_
    refine And.intro (fun c => ?_) (fun c => ?_)
    · exact absurd (show (1 : Int32) = 0 from c) (by decide)
    refine kjZ_y rfl rfl 1 _ _ _ _ ty1 ?_
    refine And.intro rfl (And.intro rfl ?_)
    exact cd_no p1 w1 hr s1.h rfl
  refine kjZ_y rfl rfl 1 _ _ _ _ ty1 ?_
  refine And.intro (fun c => ?_) (fun c => ?_)
  rotate_left
  · exact absurd rfl c
  refine kjZ_y rfl rfl 6 _ _ _ _ ty1 ?_
  refine (And.intro (ty1.k (by decide) rfl) (And.intro (ty1.k (by decide) rfl) (And.intro (Nat.le_of_ble_eq_true rfl) (And.intro (Or.inl ⟨(Nat.le_of_ble_eq_true rfl), (ty1.k (by decide) rfl)⟩) (And.intro (Nat.le_of_ble_eq_true rfl) (And.intro (Nat.le_of_ble_eq_true rfl) (kjY_mono ty1 (fun q_ u2 ty2 xu2 h_ => ?_) (kx_id ty1 w1 hB hv _ rfl))))))))
  obtain ⟨k, nm2, rfl, p2, p3, w2, s2⟩ := h_
  intro _ _
  refine kjZ_y rfl rfl 1 _ _ _ _ ty2 ?_
  refine (And.intro (Nat.le_of_ble_eq_true rfl) (And.intro (Or.inl ⟨(Nat.le_of_ble_eq_true rfl), (ty2.k (by decide) rfl)⟩) (And.intro (Nat.le_of_ble_eq_true rfl) (And.intro (Nat.le_of_ble_eq_true rfl) (kjY_mono ty2 (fun q_ u3 ty3 xu3 h_ => ?_) (kx_find ty2 w2 p2 _ rfl))))))
  obtain ⟨rfl, q3⟩ := h_
  intro _ _
  obtain ⟨b, hb, eb⟩ := w2.2.2.2.2.2.2.1
  have kb := ob_k ty3 (ANn_b b (ANb_n b hb)).1
  rcases q3 with ⟨rfl, q3⟩ | ⟨P, y, Q, rfl, f0, f1, f2⟩
  · refine kjZ_y rfl rfl 5 _ _ _ _ ty3 ?_
    refine (And.intro (Nat.le_of_ble_eq_true rfl) ?_)
    have go : ∀ x : Int32, kjY kPP (kQQ Y) (d + 7) 206 35 [some (.ref 71), some (.int x1), some (.int x2), some (.int x3), some .null, some (.int (Int32.ofInt 0)), none] [.int x, .ref b] u3 (cdP σ0 B σ ws nm ks none) := by
      intro x
      refine kjZ_y rfl rfl 1 _ _ _ _ ty3 ?_
      refine (And.intro (Nat.le_of_ble_eq_true rfl) (And.intro (Or.inl ⟨(Nat.le_of_ble_eq_true rfl), (by assumption)⟩) (And.intro (Nat.le_of_ble_eq_true rfl) (And.intro (Nat.le_of_ble_eq_true rfl) (kjY_mono ty3 (fun q_ u4 ty4 xu4 h_ => ?_) (kx_rowHead ty3 w2 hb _))))))
      obtain ⟨rfl, w4, s4⟩ := h_
      intro _ _
      refine kjZ_y rfl rfl 2 _ _ _ _ ty4 ?_
      refine (And.intro (Nat.le_of_ble_eq_true rfl) ?_)
      refine kjZ_y rfl rfl 3 _ _ _ _ ty4 ?_
      refine And.intro (fun c2 => ?_) (fun c2 => ?_)
      rotate_left
      · exact absurd (show Int32.ofInt 0 ≤ Int32.ofInt 0 by decide) c2
      refine kjZ_y rfl rfl 1 _ _ _ _ ty4 ?_
      refine And.intro rfl (And.intro rfl ?_)
      exact cd_no (p1.tr p3) w4 hr ((s1.tr s2).tr s4).h rfl
    refine kjZ_y rfl rfl 6 _ _ _ _ ty3 ?_
    refine (And.intro (Nat.le_of_ble_eq_true rfl) (And.intro (ty3.k (by decide) rfl) (And.intro (ty3.k (by decide) rfl) (Exists.intro _ (And.intro eb (And.intro (fun c2 => ?_) (fun c2 => ?_)))))))
    · refine kjZ_y rfl rfl 1 _ _ _ _ ty3 ?_
      exact go _
    refine kjZ_y rfl rfl 2 _ _ _ _ ty3 ?_
    refine And.intro (fun c3 => ?_) (fun c3 => ?_)
    · refine kjZ_y rfl rfl 1 _ _ _ _ ty3 ?_
      exact go _
    refine kjZ_y rfl rfl 4 _ _ _ _ ty3 ?_
    exact go _
  · subst f0
    have hs2 : y.2.2.2.2.2.2.1 = nI s := so_1 (s := s) f2 (fun z => q (Or.inr z))
    have hs0 : ¬ y.2.2.2.2.2.2.1 = 0 := by rcases hs with h | h <;> rw [hs2, h] <;> decide
    obtain ⟨z1, z2, kv⟩ := w2.sz hs0
    refine kjZ_y rfl rfl 5 _ _ _ _ ty3 ?_
    refine (And.intro (Nat.le_of_ble_eq_true rfl) (And.intro (by assumption) ?_))
    have go : ∀ x : Int32, kjY kPP (kQQ Y) (d + 7) 206 35 [some (.ref 71), some (.int x1), some (.int x2), some (.int x3), some (.ref y.1), some (.int (u3.1 y.1 6)), none] [.int x, .ref b] u3 (cdP σ0 B σ ws nm (P ++ y :: Q) none) := by
      intro x
      refine kjZ_y rfl rfl 1 _ _ _ _ ty3 ?_
      refine (And.intro (Nat.le_of_ble_eq_true rfl) (And.intro (Or.inl ⟨(Nat.le_of_ble_eq_true rfl), (by assumption)⟩) (And.intro (Nat.le_of_ble_eq_true rfl) (And.intro (Nat.le_of_ble_eq_true rfl) (kjY_mono ty3 (fun q_ u4 ty4 xu4 h_ => ?_) (kx_rowHead ty3 w2 hb _))))))
      obtain ⟨rfl, w4, s4⟩ := h_
      intro _ _
      have kv4 : (u4.2.2.2.1 y.1).1 = 11 := xu4.k ty3 kv (by decide)
      refine kjZ_y rfl rfl 2 _ _ _ _ ty4 ?_
      refine (And.intro (Nat.le_of_ble_eq_true rfl) ?_)
      refine k_mall_l (σ := u3) (d := d + 1) _ hs0 (n := y.2.2.2.2.2.2.2.2.2.2.length) (by omega) x1 x2 x3 _ z1 (fun u x6 tu wu su => ?_) _ 0 _ u4 (Nat.zero_add _) rfl ty4 w4 s4
      refine kjZ_y rfl rfl 1 _ _ _ _ tu ?_
      refine And.intro rfl (And.intro rfl ?_)
      exact cd_no (p1.tr p3) wu hr ((s1.tr s2).tr su).h rfl
    refine kjZ_y rfl rfl 6 _ _ _ _ ty3 ?_
    refine (And.intro (Nat.le_of_ble_eq_true rfl) (And.intro (ty3.k (by decide) rfl) (And.intro (ty3.k (by decide) rfl) (Exists.intro _ (And.intro eb (And.intro (fun c2 => ?_) (fun c2 => ?_)))))))
    · refine kjZ_y rfl rfl 1 _ _ _ _ ty3 ?_
      exact go _
    refine kjZ_y rfl rfl 2 _ _ _ _ ty3 ?_
    refine And.intro (fun c3 => ?_) (fun c3 => ?_)
    · refine kjZ_y rfl rfl 1 _ _ _ _ ty3 ?_
      exact go _
    refine kjZ_y rfl rfl 4 _ _ _ _ ty3 ?_
    exact go _
theorem kx_tellW (ty : kTY σ) (w : KWd σ0 B σ ws nm ks) (x1 : Int32) : kjY kPP (kQQ Y) (d + 6) 213 0 (mjL0 2 [.ref 71, .int x1]) [] σ (wP σ0 B σ ws nm ks) := by
  obtain ⟨b, hb, eb⟩ := w.2.2.2.2.2.2.1
  have kb := ob_k ty (ANn_b b (ANb_n b hb)).1
  refine kjZ_y rfl rfl 2 _ _ _ _ ty ?_
  refine And.intro (fun c => ?_) (fun c => ?_)
  · refine kjZ_y rfl rfl 7 _ _ _ _ ty ?_
    refine (And.intro (ty.k (by decide) rfl) (And.intro (ty.k (by decide) rfl) (And.intro (ty.k (by decide) rfl) (Exists.intro _ (And.intro eb (And.intro (Nat.le_of_ble_eq_true rfl) (And.intro (Or.inl ⟨(Nat.le_of_ble_eq_true rfl), (ty.k (by decide) rfl)⟩) (And.intro (Nat.le_of_ble_eq_true rfl) (And.intro (Nat.le_of_ble_eq_true rfl) (kjY_mono ty (fun q_ u2 ty2 xu2 h_ => ?_) (kx_copyWord ty w hb _)))))))))))
    obtain ⟨rfl, w2, s2⟩ := h_
    intro _ _
    refine kjZ_y rfl rfl 1 _ _ _ _ ty2 ?_
    refine And.intro rfl (And.intro rfl ?_)
    exact ⟨rfl, w2, s2⟩
  · refine kjZ_y rfl rfl 4 _ _ _ _ ty ?_
    refine (And.intro (ty.k (by decide) rfl) (And.intro (ty.k (by decide) rfl) (Exists.intro _ (And.intro eb (And.intro (Nat.le_of_ble_eq_true rfl) (And.intro (Or.inl ⟨(Nat.le_of_ble_eq_true rfl), (by assumption)⟩) (And.intro (Nat.le_of_ble_eq_true rfl) (And.intro (Nat.le_of_ble_eq_true rfl) (kjY_mono ty (fun q_ u2 ty2 xu2 h_ => ?_) (kx_nil ty w hb))))))))))
    obtain ⟨rfl, w2, s2⟩ := h_
    intro _ _
    refine kjZ_y rfl rfl 2 _ _ _ _ ty2 ?_
    refine And.intro rfl (And.intro rfl ?_)
    exact ⟨rfl, w2, s2⟩
end KMREAD
