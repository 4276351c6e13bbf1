/-! Members: fields read, members asked. -/
section KMREAD2
variable {Y : Nat → MethodName × ByteArray} {d : Nat} {σ0 σ u : kS} {B ws nm nm' : List (List Int32)} {ks : List KC}
theorem k_hmget_l0 (K : kK) (hB : BOK B ws)
    (hK : ∀ u nm' x2, kTY u → PRE nm nm' → KWd σ0 B u ws nm' ks → SCl scA σ u → kjY kPP (kQQ Y) (d + 7) 215 43 [some (.ref 71), some .null, some (.int x2)] [] u K) :
    ∀ (f j : Nat) (x2 : Int32) (nm' : List (List Int32)) (u : kS), j + f = ws.length → x2 = nI j → kTY u → PRE nm nm' → KWd σ0 B u ws nm' ks → SCl scA σ u →
    kjY kPP (kQQ Y) (d + 7) 215 27 [some (.ref 71), some .null, some (.int x2)] [] u K := by
  intro f
  induction f with
  | zero =>
    intro j x2 nm' u hj e2 tu hp wu su
    obtain ⟨g, M, -, -, ⟨h4, h1024⟩, -⟩ := wu.2.2.2.1
    skip
    refine kjZ_y rfl rfl 5 _ _ _ _ tu ?_
    refine (And.intro (tu.k (by decide) rfl) (And.intro (tu.k (by decide) rfl) (And.intro (fun c1 => ?_) (fun c1 => ?_))))
    rotate_left
    · refine absurd (show u.1 53 4 ≤ x2 from ?_) c1
      rw [h4, e2, nle (by omega) (by omega)]; omega
    exact hK u nm' x2 tu hp wu su
  | succ f ih =>
    intro j x2 nm' u hj e2 tu hp wu su
    obtain ⟨g, M, -, -, ⟨h4, h1024⟩, -⟩ := wu.2.2.2.1
    have hjl : j < ws.length := by omega
    skip
    refine kjZ_y rfl rfl 5 _ _ _ _ tu ?_
    refine (And.intro (tu.k (by decide) rfl) (And.intro (tu.k (by decide) rfl) (And.intro (fun c1 => ?_) (fun c1 => ?_))))
    · refine absurd (show u.1 53 4 ≤ x2 from c1) ?_
      rw [h4, e2, nle (by omega) (by omega)]; omega
    have hv := List.getElem?_eq_getElem hjl
    generalize ws[j] = v at hv
    refine kjZ_y rfl rfl 7 _ _ _ _ tu ?_
    refine (And.intro (tu.k (by decide) rfl) (And.intro (Nat.le_of_ble_eq_true rfl) (And.intro (Or.inl ⟨(Nat.le_of_ble_eq_true rfl), (tu.k (by decide) rfl)⟩) (And.intro (Nat.le_of_ble_eq_true rfl) (And.intro (Nat.le_of_ble_eq_true rfl) (kjY_mono tu (fun q_ u1 ty1 xu1 h_ => ?_) (kx_id tu wu hB hv _ e2)))))))
    obtain ⟨k, nm2, rfl, p2, p3, w1, s1⟩ := h_
    intro _ _
    skip
    refine kjZ_y rfl rfl 1 _ _ _ _ ty1 ?_
    refine (And.intro (Nat.le_of_ble_eq_true rfl) (And.intro (Or.inl ⟨(Nat.le_of_ble_eq_true rfl), (ty1.k (by decide) rfl)⟩) (And.intro (Nat.le_of_ble_eq_true rfl) (And.intro (Nat.le_of_ble_eq_true rfl) (kjY_mono ty1 (fun q_ u2 ty2 xu2 h_ => ?_) (kx_valueOf0 (nm := nm2) ty1 _))))))
    obtain ⟨rfl, q2⟩ := h_
    intro _ _
    obtain ⟨z, rfl⟩ : ∃ z : Int32, q_ = some (.int z) := by
      rcases q2 with ⟨-, h⟩ | ⟨t, kk, -, h, -⟩
      · exact ⟨_, h⟩
      · exact ⟨_, h⟩
    refine kjZ_y rfl rfl 1 _ _ _ _ ty2 ?_
    refine (And.intro (Nat.le_of_ble_eq_true rfl) (And.intro (Or.inl ⟨(Nat.le_of_ble_eq_true rfl), (ty2.k (by decide) rfl)⟩) (And.intro (Nat.le_of_ble_eq_true rfl) (And.intro (Nat.le_of_ble_eq_true rfl) (kjY_mono ty2 (fun q_ u3 ty3 xu3 h_ => ?_) (kx_tellW ty2 w1 _))))))
    obtain ⟨rfl, w3, s3⟩ := h_
    intro _ _
    skip
    refine kjZ_y rfl rfl 2 _ _ _ _ ty3 ?_
    exact ih (j + 1) _ nm2 u3 (by omega) (by rw [e2]; exact nI_1 j) ty3 (hp.tr p3) w3 ((su.tr s1).tr s3)
theorem k_hmget_l (K : kK) (hB : BOK B ws) {P Q : List KC} {x : KC} (hso : x.2.2.2.2.2.2.1 = 2) (hSP : SP x.2.2.2.2.2.2.2.2.2.2) (hs0 : ¬ x.2.2.2.2.2.2.1 = 0)
    (hK : ∀ u nm' x2, kTY u → PRE nm nm' → KWd σ0 B u ws nm' (P ++ x :: Q) → SCl scA σ u → kjY kPP (kQQ Y) (d + 7) 215 43 [some (.ref 71), some (.ref x.1), some (.int x2)] [] u K) :
    ∀ (f j : Nat) (x2 : Int32) (nm' : List (List Int32)) (u : kS), j + f = ws.length → x2 = nI j → kTY u → PRE nm nm' → KWd σ0 B u ws nm' (P ++ x :: Q) → SCl scA σ u →
    kjY kPP (kQQ Y) (d + 7) 215 27 [some (.ref 71), some (.ref x.1), some (.int x2)] [] u K := by
  intro f
  induction f with
  | zero =>
    intro j x2 nm' u hj e2 tu hp wu su
    obtain ⟨g, M, -, -, ⟨h4, h1024⟩, -⟩ := wu.2.2.2.1
    have kv := (wu.sz hs0).2.2
    refine kjZ_y rfl rfl 5 _ _ _ _ tu ?_
    refine (And.intro (tu.k (by decide) rfl) (And.intro (tu.k (by decide) rfl) (And.intro (fun c1 => ?_) (fun c1 => ?_))))
    rotate_left
    · refine absurd (show u.1 53 4 ≤ x2 from ?_) c1
      rw [h4, e2, nle (by omega) (by omega)]; omega
    exact hK u nm' x2 tu hp wu su
  | succ f ih =>
    intro j x2 nm' u hj e2 tu hp wu su
    obtain ⟨g, M, -, -, ⟨h4, h1024⟩, -⟩ := wu.2.2.2.1
    have hjl : j < ws.length := by omega
    have kv := (wu.sz hs0).2.2
    refine kjZ_y rfl rfl 5 _ _ _ _ tu ?_
    refine (And.intro (tu.k (by decide) rfl) (And.intro (tu.k (by decide) rfl) (And.intro (fun c1 => ?_) (fun c1 => ?_))))
    · refine absurd (show u.1 53 4 ≤ x2 from c1) ?_
      rw [h4, e2, nle (by omega) (by omega)]; omega
    have hv := List.getElem?_eq_getElem hjl
    generalize ws[j] = v at hv
    refine kjZ_y rfl rfl 7 _ _ _ _ tu ?_
    refine (And.intro (tu.k (by decide) rfl) (And.intro (Nat.le_of_ble_eq_true rfl) (And.intro (Or.inl ⟨(Nat.le_of_ble_eq_true rfl), (tu.k (by decide) rfl)⟩) (And.intro (Nat.le_of_ble_eq_true rfl) (And.intro (Nat.le_of_ble_eq_true rfl) (kjY_mono tu (fun q_ u1 ty1 xu1 h_ => ?_) (kx_id tu wu hB hv _ e2)))))))
    obtain ⟨k, nm2, rfl, p2, p3, w1, s1⟩ := h_
    intro _ _
    have kv1 := (w1.sz hs0).2.2
    refine kjZ_y rfl rfl 1 _ _ _ _ ty1 ?_
    refine (And.intro (Nat.le_of_ble_eq_true rfl) (And.intro (Or.inl ⟨(Nat.le_of_ble_eq_true rfl), (ty1.k (by decide) rfl)⟩) (And.intro (Nat.le_of_ble_eq_true rfl) (And.intro (Nat.le_of_ble_eq_true rfl) (kjY_mono ty1 (fun q_ u2 ty2 xu2 h_ => ?_) (kx_valueOf ty1 w1 hso hSP p2 _ rfl))))))
    obtain ⟨rfl, q2⟩ := h_
    intro _ _
    obtain ⟨z, rfl⟩ : ∃ z : Int32, q_ = some (.int z) := by
      rcases q2 with ⟨-, h⟩ | ⟨t, kk, -, h, -⟩
      · exact ⟨_, h⟩
      · exact ⟨_, h⟩
    refine kjZ_y rfl rfl 1 _ _ _ _ ty2 ?_
    refine (And.intro (Nat.le_of_ble_eq_true rfl) (And.intro (Or.inl ⟨(Nat.le_of_ble_eq_true rfl), (ty2.k (by decide) rfl)⟩) (And.intro (Nat.le_of_ble_eq_true rfl) (And.intro (Nat.le_of_ble_eq_true rfl) (kjY_mono ty2 (fun q_ u3 ty3 xu3 h_ => ?_) (kx_tellW ty2 w1 _))))))
    obtain ⟨rfl, w3, s3⟩ := h_
    intro _ _
    have kv3 := (w3.sz hs0).2.2
    refine kjZ_y rfl rfl 2 _ _ _ _ ty3 ?_
    exact ih (j + 1) _ nm2 u3 (by omega) (by rw [e2]; exact nI_1 j) ty3 (hp.tr p3) w3 ((su.tr s1).tr s3)
theorem k_smis_l0 (K : kK) (hB : BOK B ws)
    (hK : ∀ u nm' x2, kTY u → PRE nm nm' → KWd σ0 B u ws nm' ks → SCl scA σ u → kjY kPP (kQQ Y) (d + 7) 220 50 [some (.ref 71), some .null, some (.int x2)] [] u K) :
    ∀ (f j : Nat) (x2 : Int32) (nm' : List (List Int32)) (u : kS), j + f = ws.length → x2 = nI j → kTY u → PRE nm nm' → KWd σ0 B u ws nm' ks → SCl scA σ u →
    kjY kPP (kQQ Y) (d + 7) 220 27 [some (.ref 71), some .null, some (.int x2)] [] u K := by
  intro f
  induction f with
  | zero =>
    intro j x2 nm' u hj e2 tu hp wu su
    obtain ⟨g, M, -, -, ⟨h4, h1024⟩, -⟩ := wu.2.2.2.1
    skip
    refine kjZ_y rfl rfl 5 _ _ _ _ tu ?_
    refine (And.intro (tu.k (by decide) rfl) (And.intro (tu.k (by decide) rfl) (And.intro (fun c1 => ?_) (fun c1 => ?_))))
    rotate_left
    · refine absurd (show u.1 53 4 ≤ x2 from ?_) c1
      rw [h4, e2, nle (by omega) (by omega)]; omega
    exact hK u nm' x2 tu hp wu su
  | succ f ih =>
    intro j x2 nm' u hj e2 tu hp wu su
    obtain ⟨g, M, -, -, ⟨h4, h1024⟩, -⟩ := wu.2.2.2.1
    have hjl : j < ws.length := by omega
    skip
    refine kjZ_y rfl rfl 5 _ _ _ _ tu ?_
    refine (And.intro (tu.k (by decide) rfl) (And.intro (tu.k (by decide) rfl) (And.intro (fun c1 => ?_) (fun c1 => ?_))))
    · refine absurd (show u.1 53 4 ≤ x2 from c1) ?_
      rw [h4, e2, nle (by omega) (by omega)]; omega
    have hv := List.getElem?_eq_getElem hjl
    generalize ws[j] = v at hv
    obtain ⟨b, hb, eb⟩ := wu.2.2.2.2.2.2.1
    have kb := ob_k tu (ANn_b b (ANb_n b hb)).1
    refine kjZ_y rfl rfl 10 _ _ _ _ tu ?_
    refine (And.intro (tu.k (by decide) rfl) (And.intro (tu.k (by decide) rfl) (Exists.intro _ (And.intro eb (And.intro (tu.k (by decide) rfl) (And.intro (tu.k (by decide) rfl) (And.intro (Nat.le_of_ble_eq_true rfl) (And.intro (Or.inl ⟨(Nat.le_of_ble_eq_true rfl), (tu.k (by decide) rfl)⟩) (And.intro (Nat.le_of_ble_eq_true rfl) (And.intro (Nat.le_of_ble_eq_true rfl) (kjY_mono tu (fun q_ u1 ty1 xu1 h_ => ?_) (kx_id tu wu hB hv _ e2))))))))))))
    obtain ⟨k, nm2, rfl, p2, p3, w1, s1⟩ := h_
    intro _ _
    have kb1 := ob_k ty1 (ANn_b b (ANb_n b hb)).1
    skip
    refine kjZ_y rfl rfl 1 _ _ _ _ ty1 ?_
    refine (And.intro (Nat.le_of_ble_eq_true rfl) (And.intro (Or.inl ⟨(Nat.le_of_ble_eq_true rfl), (ty1.k (by decide) rfl)⟩) (And.intro (Nat.le_of_ble_eq_true rfl) (And.intro (Nat.le_of_ble_eq_true rfl) (kjY_mono ty1 (fun q_ u2 ty2 xu2 h_ => ?_) (kx_placeOf0 ty1 _))))))
    obtain ⟨rfl, rfl⟩ := h_
    intro _ _
    have last : ∀ n : Int64, kjY kPP (kQQ Y) (d + 7) 220 47 [some (.ref 71), some .null, some (.int x2)] [.long n, .ref b] u2 K := by
      intro n
      refine kjZ_y rfl rfl 1 _ _ _ _ ty2 ?_
      refine (And.intro (Nat.le_of_ble_eq_true rfl) (And.intro (Or.inl ⟨(Nat.le_of_ble_eq_true rfl), (by assumption)⟩) (And.intro (Nat.le_of_ble_eq_true rfl) (And.intro (Nat.le_of_ble_eq_true rfl) (kjY_mono ty2 (fun q_ u3 ty3 xu3 h_ => ?_) (kx_number ty2 w1 hb _))))))
      obtain ⟨rfl, w3, s3⟩ := h_
      intro _ _
      skip
      refine kjZ_y rfl rfl 2 _ _ _ _ ty3 ?_
      exact ih (j + 1) _ nm2 u3 (by omega) (by rw [e2]; exact nI_1 j) ty3 (hp.tr p3) w3 ((su.tr s1).tr s3)
    refine kjZ_y rfl rfl 1 _ _ _ _ ty2 ?_
    refine And.intro (fun c2 => ?_) (fun c2 => ?_)
    · refine kjZ_y rfl rfl 1 _ _ _ _ ty2 ?_
      exact last _
    · refine kjZ_y rfl rfl 2 _ _ _ _ ty2 ?_
      exact last _
theorem k_smis_l (K : kK) (hB : BOK B ws) {P Q : List KC} {x : KC} (hso : x.2.2.2.2.2.2.1 = 3) (hSP : SP x.2.2.2.2.2.2.2.2.2.2) (hs0 : ¬ x.2.2.2.2.2.2.1 = 0)
    (hK : ∀ u nm' x2, kTY u → PRE nm nm' → KWd σ0 B u ws nm' (P ++ x :: Q) → SCl scA σ u → kjY kPP (kQQ Y) (d + 7) 220 50 [some (.ref 71), some (.ref x.1), some (.int x2)] [] u K) :
    ∀ (f j : Nat) (x2 : Int32) (nm' : List (List Int32)) (u : kS), j + f = ws.length → x2 = nI j → kTY u → PRE nm nm' → KWd σ0 B u ws nm' (P ++ x :: Q) → SCl scA σ u →
    kjY kPP (kQQ Y) (d + 7) 220 27 [some (.ref 71), some (.ref x.1), some (.int x2)] [] u K := by
  intro f
  induction f with
  | zero =>
    intro j x2 nm' u hj e2 tu hp wu su
    obtain ⟨g, M, -, -, ⟨h4, h1024⟩, -⟩ := wu.2.2.2.1
    have kv := (wu.sz hs0).2.2
    refine kjZ_y rfl rfl 5 _ _ _ _ tu ?_
    refine (And.intro (tu.k (by decide) rfl) (And.intro (tu.k (by decide) rfl) (And.intro (fun c1 => ?_) (fun c1 => ?_))))
    rotate_left
    · refine absurd (show u.1 53 4 ≤ x2 from ?_) c1
      rw [h4, e2, nle (by omega) (by omega)]; omega
    exact hK u nm' x2 tu hp wu su
  | succ f ih =>
    intro j x2 nm' u hj e2 tu hp wu su
    obtain ⟨g, M, -, -, ⟨h4, h1024⟩, -⟩ := wu.2.2.2.1
    have hjl : j < ws.length := by omega
    have kv := (wu.sz hs0).2.2
    refine kjZ_y rfl rfl 5 _ _ _ _ tu ?_
    refine (And.intro (tu.k (by decide) rfl) (And.intro (tu.k (by decide) rfl) (And.intro (fun c1 => ?_) (fun c1 => ?_))))
    · refine absurd (show u.1 53 4 ≤ x2 from c1) ?_
      rw [h4, e2, nle (by omega) (by omega)]; omega
    have hv := List.getElem?_eq_getElem hjl
    generalize ws[j] = v at hv
    obtain ⟨b, hb, eb⟩ := wu.2.2.2.2.2.2.1
    have kb := ob_k tu (ANn_b b (ANb_n b hb)).1
    refine kjZ_y rfl rfl 10 _ _ _ _ tu ?_
    refine (And.intro (tu.k (by decide) rfl) (And.intro (tu.k (by decide) rfl) (Exists.intro _ (And.intro eb (And.intro (tu.k (by decide) rfl) (And.intro (tu.k (by decide) rfl) (And.intro (Nat.le_of_ble_eq_true rfl) (And.intro (Or.inl ⟨(Nat.le_of_ble_eq_true rfl), (tu.k (by decide) rfl)⟩) (And.intro (Nat.le_of_ble_eq_true rfl) (And.intro (Nat.le_of_ble_eq_true rfl) (kjY_mono tu (fun q_ u1 ty1 xu1 h_ => ?_) (kx_id tu wu hB hv _ e2))))))))))))
    obtain ⟨k, nm2, rfl, p2, p3, w1, s1⟩ := h_
    intro _ _
    have kb1 := ob_k ty1 (ANn_b b (ANb_n b hb)).1
    have kv1 := (w1.sz hs0).2.2
    refine kjZ_y rfl rfl 1 _ _ _ _ ty1 ?_
    refine (And.intro (Nat.le_of_ble_eq_true rfl) (And.intro (Or.inl ⟨(Nat.le_of_ble_eq_true rfl), (ty1.k (by decide) rfl)⟩) (And.intro (Nat.le_of_ble_eq_true rfl) (And.intro (Nat.le_of_ble_eq_true rfl) (kjY_mono ty1 (fun q_ u2 ty2 xu2 h_ => ?_) (kx_plM ty1 w1 (Or.inr hso) hSP p2 _ rfl))))))
    obtain ⟨rfl, rfl⟩ := h_
    intro _ _
    have last : ∀ n : Int64, kjY kPP (kQQ Y) (d + 7) 220 47 [some (.ref 71), some (.ref x.1), some (.int x2)] [.long n, .ref b] u2 K := by
      intro n
      refine kjZ_y rfl rfl 1 _ _ _ _ ty2 ?_
      refine (And.intro (Nat.le_of_ble_eq_true rfl) (And.intro (Or.inl ⟨(Nat.le_of_ble_eq_true rfl), (by assumption)⟩) (And.intro (Nat.le_of_ble_eq_true rfl) (And.intro (Nat.le_of_ble_eq_true rfl) (kjY_mono ty2 (fun q_ u3 ty3 xu3 h_ => ?_) (kx_number ty2 w1 hb _))))))
      obtain ⟨rfl, w3, s3⟩ := h_
      intro _ _
      have kv3 := (w3.sz hs0).2.2
      refine kjZ_y rfl rfl 2 _ _ _ _ ty3 ?_
      exact ih (j + 1) _ nm2 u3 (by omega) (by rw [e2]; exact nI_1 j) ty3 (hp.tr p3) w3 ((su.tr s1).tr s3)
    refine kjZ_y rfl rfl 1 _ _ _ _ ty2 ?_
    refine And.intro (fun c2 => ?_) (fun c2 => ?_)
    · refine kjZ_y rfl rfl 1 _ _ _ _ ty2 ?_
      exact last _
    · refine kjZ_y rfl rfl 2 _ _ _ _ ty2 ?_
      exact last _
theorem kx_hmget (ty : kTY σ) (w : KWd σ0 B σ ws nm ks) (hr : RSD ks) (hB : BOK B ws) {j : Nat} (hj : CMD σ j) {v : List Int32} (hv : ws[1]? = some v) (hl2 : 2 ≤ ws.length) (hS : ∀ x ∈ ks, x.2.2.2.2.2.2.1 = 2 → SP x.2.2.2.2.2.2.2.2.2.2) : kjY kPP (kQQ Y) (d + 8) 215 0 (mjL0 3 [.ref 71]) [] σ (cdP σ0 B σ ws nm ks none) := by
  have hlen := (List.getElem?_eq_some_iff.mp hv).1
  refine kjZ_y rfl rfl 6 _ _ _ _ ty ?_
  refine (And.intro (ty.k (by decide) rfl) (And.intro (Nat.le_of_ble_eq_true rfl) (And.intro (Or.inl ⟨(Nat.le_of_ble_eq_true rfl), (ty.k (by decide) rfl)⟩) (And.intro (Nat.le_of_ble_eq_true rfl) (And.intro (Nat.le_of_ble_eq_true rfl) (kjY_mono ty (fun q_ u1 ty1 xu1 h_ => ?_) (kx_refuses ty w hB hj (a := 1) (b := 1) (by omega) (by omega) (s := 2) (by decide) _ _ _ rfl rfl rfl)))))))
  obtain ⟨nm1, p1, w1, s1, q⟩ := h_
  intro _ _
  rw [rf1 w hv] at q
  rcases q with ⟨rfl, q⟩ | ⟨rfl, q⟩
  · refine kjZ_y rfl rfl 1 _ _ _ _ ty1 ?_
    refine And.intro (fun c => ?_) (fun c => ?_)
    · exact absurd (show (1 : Int32) = 0 from c) (by decide)
    refine kjZ_y rfl rfl 1 _ _ _ _ ty1 ?_
    refine And.intro rfl (And.intro rfl ?_)
    exact cd_no p1 w1 hr s1.h rfl
  refine kjZ_y rfl rfl 1 _ _ _ _ ty1 ?_
  refine And.intro (fun c => ?_) (fun c => ?_)
  rotate_left
  · exact absurd rfl c
  refine kjZ_y rfl rfl 6 _ _ _ _ ty1 ?_
  refine (And.intro (ty1.k (by decide) rfl) (And.intro (ty1.k (by decide) rfl) (And.intro (Nat.le_of_ble_eq_true rfl) (And.intro (Or.inl ⟨(Nat.le_of_ble_eq_true rfl), (ty1.k (by decide) rfl)⟩) (And.intro (Nat.le_of_ble_eq_true rfl) (And.intro (Nat.le_of_ble_eq_true rfl) (kjY_mono ty1 (fun q_ u2 ty2 xu2 h_ => ?_) (kx_id ty1 w1 hB hv _ rfl))))))))
  obtain ⟨k, nm2, rfl, p2, p3, w2, s2⟩ := h_
  intro _ _
  refine kjZ_y rfl rfl 1 _ _ _ _ ty2 ?_
  refine (And.intro (Nat.le_of_ble_eq_true rfl) (And.intro (Or.inl ⟨(Nat.le_of_ble_eq_true rfl), (ty2.k (by decide) rfl)⟩) (And.intro (Nat.le_of_ble_eq_true rfl) (And.intro (Nat.le_of_ble_eq_true rfl) (kjY_mono ty2 (fun q_ u3 ty3 xu3 h_ => ?_) (kx_find ty2 w2 p2 _ rfl))))))
  obtain ⟨rfl, q3⟩ := h_
  intro _ _
  obtain ⟨b, hb, eb⟩ := w2.2.2.2.2.2.2.1
  have kb := ob_k ty3 (ANn_b b (ANb_n b hb)).1
  rcases q3 with ⟨rfl, q3⟩ | ⟨P, y, Q, rfl, f0, f1, f2⟩
  · refine kjZ_y rfl rfl 10 _ _ _ _ ty3 ?_
    refine (And.intro (Nat.le_of_ble_eq_true rfl) (And.intro (ty3.k (by decide) rfl) (And.intro (ty3.k (by decide) rfl) (Exists.intro _ (And.intro eb (And.intro (ty3.k (by decide) rfl) (And.intro (ty3.k (by decide) rfl) (And.intro (Nat.le_of_ble_eq_true rfl) (And.intro (Or.inl ⟨(Nat.le_of_ble_eq_true rfl), (by assumption)⟩) (And.intro (Nat.le_of_ble_eq_true rfl) (And.intro (Nat.le_of_ble_eq_true rfl) (kjY_mono ty3 (fun q_ u4 ty4 xu4 h_ => ?_) (kx_rowHead ty3 w2 hb _)))))))))))))
    obtain ⟨rfl, w4, s4⟩ := h_
    intro _ _
    refine kjZ_y rfl rfl 2 _ _ _ _ ty4 ?_
    refine (And.intro (Nat.le_of_ble_eq_true rfl) ?_)
    refine k_hmget_l0 (σ := u3) (nm := nm2) (d := d + 1) _ hB (fun u nm' x2 tu hp wu su => ?_) (ws.length - 2) 2 _ nm2 u4 (by omega) rfl ty4 PRE.rf w4 s4
    refine kjZ_y rfl rfl 1 _ _ _ _ tu ?_
    refine And.intro rfl (And.intro rfl ?_)
    exact cd_no ((p1.tr p3).tr hp) wu hr ((s1.tr s2).tr su).h rfl
  · subst f0
    have hs2 : y.2.2.2.2.2.2.1 = 2 := so_1 (s := 2) f2 (fun z => q (Or.inr z))
    have hs0 : ¬ y.2.2.2.2.2.2.1 = 0 := by rw [hs2]; decide
    have kv := (w2.sz hs0).2.2
    have hSP := hS y (List.mem_append_right _ List.mem_cons_self) hs2
    refine kjZ_y rfl rfl 10 _ _ _ _ ty3 ?_
    refine (And.intro (Nat.le_of_ble_eq_true rfl) (And.intro (ty3.k (by decide) rfl) (And.intro (ty3.k (by decide) rfl) (Exists.intro _ (And.intro eb (And.intro (ty3.k (by decide) rfl) (And.intro (ty3.k (by decide) rfl) (And.intro (Nat.le_of_ble_eq_true rfl) (And.intro (Or.inl ⟨(Nat.le_of_ble_eq_true rfl), (by assumption)⟩) (And.intro (Nat.le_of_ble_eq_true rfl) (And.intro (Nat.le_of_ble_eq_true rfl) (kjY_mono ty3 (fun q_ u4 ty4 xu4 h_ => ?_) (kx_rowHead ty3 w2 hb _)))))))))))))
    obtain ⟨rfl, w4, s4⟩ := h_
    intro _ _
    have kv4 := (w4.sz hs0).2.2
    refine kjZ_y rfl rfl 2 _ _ _ _ ty4 ?_
    refine (And.intro (Nat.le_of_ble_eq_true rfl) ?_)
    refine k_hmget_l (σ := u3) (nm := nm2) (d := d + 1) _ hB hs2 hSP hs0 (fun u nm' x2 tu hp wu su => ?_) (ws.length - 2) 2 _ nm2 u4 (by omega) rfl ty4 PRE.rf w4 s4
    refine kjZ_y rfl rfl 1 _ _ _ _ tu ?_
    refine And.intro rfl (And.intro rfl ?_)
    exact cd_no ((p1.tr p3).tr hp) wu hr ((s1.tr s2).tr su).h rfl
theorem kx_smis (ty : kTY σ) (w : KWd σ0 B σ ws nm ks) (hr : RSD ks) (hB : BOK B ws) {j : Nat} (hj : CMD σ j) {v : List Int32} (hv : ws[1]? = some v) (hl2 : 2 ≤ ws.length) (hS : ∀ x ∈ ks, x.2.2.2.2.2.2.1 = 3 → SP x.2.2.2.2.2.2.2.2.2.2) : kjY kPP (kQQ Y) (d + 8) 220 0 (mjL0 3 [.ref 71]) [] σ (cdP σ0 B σ ws nm ks none) := by
  have hlen := (List.getElem?_eq_some_iff.mp hv).1
  refine kjZ_y rfl rfl 6 _ _ _ _ ty ?_
  refine (And.intro (ty.k (by decide) rfl) (And.intro (Nat.le_of_ble_eq_true rfl) (And.intro (Or.inl ⟨(Nat.le_of_ble_eq_true rfl), (ty.k (by decide) rfl)⟩) (And.intro (Nat.le_of_ble_eq_true rfl) (And.intro (Nat.le_of_ble_eq_true rfl) (kjY_mono ty (fun q_ u1 ty1 xu1 h_ => ?_) (kx_refuses ty w hB hj (a := 1) (b := 1) (by omega) (by omega) (s := 3) (by decide) _ _ _ rfl rfl rfl)))))))
  obtain ⟨nm1, p1, w1, s1, q⟩ := h_
  intro _ _
  rw [rf1 w hv] at q
  rcases q with ⟨rfl, q⟩ | ⟨rfl, q⟩
  · refine kjZ_y rfl rfl 1 _ _ _ _ ty1 ?_
    refine And.intro (fun c => ?_) (fun c => ?_)
    · exact absurd (show (1 : Int32) = 0 from c) (by decide)
    refine kjZ_y rfl rfl 1 _ _ _ _ ty1 ?_
    refine And.intro rfl (And.intro rfl ?_)
    exact cd_no p1 w1 hr s1.h rfl
  refine kjZ_y rfl rfl 1 _ _ _ _ ty1 ?_
  refine And.intro (fun c => ?_) (fun c => ?_)
  rotate_left
  · exact absurd rfl c
  refine kjZ_y rfl rfl 6 _ _ _ _ ty1 ?_
  refine (And.intro (ty1.k (by decide) rfl) (And.intro (ty1.k (by decide) rfl) (And.intro (Nat.le_of_ble_eq_true rfl) (And.intro (Or.inl ⟨(Nat.le_of_ble_eq_true rfl), (ty1.k (by decide) rfl)⟩) (And.intro (Nat.le_of_ble_eq_true rfl) (And.intro (Nat.le_of_ble_eq_true rfl) (kjY_mono ty1 (fun q_ u2 ty2 xu2 h_ => ?_) (kx_id ty1 w1 hB hv _ rfl))))))))
  obtain ⟨k, nm2, rfl, p2, p3, w2, s2⟩ := h_
  intro _ _
  refine kjZ_y rfl rfl 1 _ _ _ _ ty2 ?_
  refine (And.intro (Nat.le_of_ble_eq_true rfl) (And.intro (Or.inl ⟨(Nat.le_of_ble_eq_true rfl), (ty2.k (by decide) rfl)⟩) (And.intro (Nat.le_of_ble_eq_true rfl) (And.intro (Nat.le_of_ble_eq_true rfl) (kjY_mono ty2 (fun q_ u3 ty3 xu3 h_ => ?_) (kx_find ty2 w2 p2 _ rfl))))))
  obtain ⟨rfl, q3⟩ := h_
  intro _ _
  obtain ⟨b, hb, eb⟩ := w2.2.2.2.2.2.2.1
  have kb := ob_k ty3 (ANn_b b (ANb_n b hb)).1
  rcases q3 with ⟨rfl, q3⟩ | ⟨P, y, Q, rfl, f0, f1, f2⟩
  · refine kjZ_y rfl rfl 10 _ _ _ _ ty3 ?_
    refine (And.intro (Nat.le_of_ble_eq_true rfl) (And.intro (ty3.k (by decide) rfl) (And.intro (ty3.k (by decide) rfl) (Exists.intro _ (And.intro eb (And.intro (ty3.k (by decide) rfl) (And.intro (ty3.k (by decide) rfl) (And.intro (Nat.le_of_ble_eq_true rfl) (And.intro (Or.inl ⟨(Nat.le_of_ble_eq_true rfl), (by assumption)⟩) (And.intro (Nat.le_of_ble_eq_true rfl) (And.intro (Nat.le_of_ble_eq_true rfl) (kjY_mono ty3 (fun q_ u4 ty4 xu4 h_ => ?_) (kx_rowHead ty3 w2 hb _)))))))))))))
    obtain ⟨rfl, w4, s4⟩ := h_
    intro _ _
    refine kjZ_y rfl rfl 2 _ _ _ _ ty4 ?_
    refine (And.intro (Nat.le_of_ble_eq_true rfl) ?_)
    refine k_smis_l0 (σ := u3) (nm := nm2) (d := d + 1) _ hB (fun u nm' x2 tu hp wu su => ?_) (ws.length - 2) 2 _ nm2 u4 (by omega) rfl ty4 PRE.rf w4 s4
    refine kjZ_y rfl rfl 1 _ _ _ _ tu ?_
    refine And.intro rfl (And.intro rfl ?_)
    exact cd_no ((p1.tr p3).tr hp) wu hr ((s1.tr s2).tr su).h rfl
  · subst f0
    have hs2 : y.2.2.2.2.2.2.1 = 3 := so_1 (s := 3) f2 (fun z => q (Or.inr z))
    have hs0 : ¬ y.2.2.2.2.2.2.1 = 0 := by rw [hs2]; decide
    have kv := (w2.sz hs0).2.2
    have hSP := hS y (List.mem_append_right _ List.mem_cons_self) hs2
    refine kjZ_y rfl rfl 10 _ _ _ _ ty3 ?_
    refine (And.intro (Nat.le_of_ble_eq_true rfl) (And.intro (ty3.k (by decide) rfl) (And.intro (ty3.k (by decide) rfl) (Exists.intro _ (And.intro eb (And.intro (ty3.k (by decide) rfl) (And.intro (ty3.k (by decide) rfl) (And.intro (Nat.le_of_ble_eq_true rfl) (And.intro (Or.inl ⟨(Nat.le_of_ble_eq_true rfl), (by assumption)⟩) (And.intro (Nat.le_of_ble_eq_true rfl) (And.intro (Nat.le_of_ble_eq_true rfl) (kjY_mono ty3 (fun q_ u4 ty4 xu4 h_ => ?_) (kx_rowHead ty3 w2 hb _)))))))))))))
    obtain ⟨rfl, w4, s4⟩ := h_
    intro _ _
    have kv4 := (w4.sz hs0).2.2
    refine kjZ_y rfl rfl 2 _ _ _ _ ty4 ?_
    refine (And.intro (Nat.le_of_ble_eq_true rfl) ?_)
    refine k_smis_l (σ := u3) (nm := nm2) (d := d + 1) _ hB hs2 hSP hs0 (fun u nm' x2 tu hp wu su => ?_) (ws.length - 2) 2 _ nm2 u4 (by omega) rfl ty4 PRE.rf w4 s4
    refine kjZ_y rfl rfl 1 _ _ _ _ tu ?_
    refine And.intro rfl (And.intro rfl ?_)
    exact cd_no ((p1.tr p3).tr hp) wu hr ((s1.tr s2).tr su).h rfl
theorem kx_hget (ty : kTY σ) (w : KWd σ0 B σ ws nm ks) (hr : RSD ks) (hB : BOK B ws) {j : Nat} (hj : CMD σ j) {v f : List Int32} (hv : ws[1]? = some v) (h2 : ws[2]? = some f) (hS : ∀ x ∈ ks, x.2.2.2.2.2.2.1 = 2 → SP x.2.2.2.2.2.2.2.2.2.2) : kjY kPP (kQQ Y) (d + 8) 214 0 (mjL0 1 [.ref 71]) [] σ (cdP σ0 B σ ws nm ks none) := by
  have hlen := (List.getElem?_eq_some_iff.mp hv).1
  refine kjZ_y rfl rfl 6 _ _ _ _ ty ?_
  refine (And.intro (ty.k (by decide) rfl) (And.intro (Nat.le_of_ble_eq_true rfl) (And.intro (Or.inl ⟨(Nat.le_of_ble_eq_true rfl), (ty.k (by decide) rfl)⟩) (And.intro (Nat.le_of_ble_eq_true rfl) (And.intro (Nat.le_of_ble_eq_true rfl) (kjY_mono ty (fun q_ u1 ty1 xu1 h_ => ?_) (kx_refuses ty w hB hj (a := 1) (b := 1) (by omega) (by omega) (s := 2) (by decide) _ _ _ rfl rfl rfl)))))))
  obtain ⟨nm1, p1, w1, s1, q⟩ := h_
  intro _ _
  rw [rf1 w hv] at q
  rcases q with ⟨rfl, q⟩ | ⟨rfl, q⟩
  · refine kjZ_y rfl rfl 1 _ _ _ _ ty1 ?_
    refine And.intro (fun c => ?_) (fun c => ?_)
    rotate_left
    · exact absurd (show ¬ (1 : Int32) = 0 by decide) c
    refine kjZ_y rfl rfl 1 _ _ _ _ ty1 ?_
    refine And.intro rfl (And.intro rfl ?_)
    exact cd_no p1 w1 hr s1.h rfl
  refine kjZ_y rfl rfl 1 _ _ _ _ ty1 ?_
  refine And.intro (fun c => ?_) (fun c => ?_)
  · exact absurd rfl c
  refine kjZ_y rfl rfl 8 _ _ _ _ ty1 ?_
  refine (And.intro (ty1.k (by decide) rfl) (And.intro (ty1.k (by decide) rfl) (And.intro (Nat.le_of_ble_eq_true rfl) (And.intro (Or.inl ⟨(Nat.le_of_ble_eq_true rfl), (ty1.k (by decide) rfl)⟩) (And.intro (Nat.le_of_ble_eq_true rfl) (And.intro (Nat.le_of_ble_eq_true rfl) (kjY_mono ty1 (fun q_ u2 ty2 xu2 h_ => ?_) (kx_id ty1 w1 hB hv _ rfl))))))))
  obtain ⟨k, nm2, rfl, p2, p3, w2, s2⟩ := h_
  intro _ _
  refine kjZ_y rfl rfl 1 _ _ _ _ ty2 ?_
  refine (And.intro (Nat.le_of_ble_eq_true rfl) (And.intro (Or.inl ⟨(Nat.le_of_ble_eq_true rfl), (ty2.k (by decide) rfl)⟩) (And.intro (Nat.le_of_ble_eq_true rfl) (And.intro (Nat.le_of_ble_eq_true rfl) (kjY_mono ty2 (fun q_ u3 ty3 xu3 h_ => ?_) (kx_find ty2 w2 p2 _ rfl))))))
  obtain ⟨rfl, q3⟩ := h_
  intro _ _
  have fin : ∀ (u5 : kS) (nm3 : List (List Int32)) (z : Int32), kTY u5 → PRE nm2 nm3 → KWd σ0 B u5 ws nm3 ks → SCl scA u3 u5 → kjY kPP (kQQ Y) (d + 8) 214 21 [some (.ref 71)] [.int z, .ref 71] u5 (cdP σ0 B σ ws nm ks none) := by
    intro u5 nm3 z ty5 p5 w5 s5
    refine kjZ_y rfl rfl 1 _ _ _ _ ty5 ?_
    refine (And.intro (Nat.le_of_ble_eq_true rfl) (And.intro (Or.inl ⟨(Nat.le_of_ble_eq_true rfl), (ty5.k (by decide) rfl)⟩) (And.intro (Nat.le_of_ble_eq_true rfl) (And.intro (Nat.le_of_ble_eq_true rfl) (kjY_mono ty5 (fun q_ u6 ty6 xu6 h_ => ?_) (kx_tellW ty5 w5 _))))))
    obtain ⟨rfl, w6, s6⟩ := h_
    intro _ _
    refine kjZ_y rfl rfl 1 _ _ _ _ ty6 ?_
    refine And.intro rfl (And.intro rfl ?_)
    exact cd_no ((p1.tr p3).tr p5) w6 hr (((s1.tr s2).tr s5).tr s6).h rfl
  rcases q3 with ⟨rfl, q3⟩ | ⟨P, y, Q, rfl, f0, f1, f2⟩
  · refine kjZ_y rfl rfl 4 _ _ _ _ ty3 ?_
    refine (And.intro (ty3.k (by decide) rfl) (And.intro (Nat.le_of_ble_eq_true rfl) (And.intro (Or.inl ⟨(Nat.le_of_ble_eq_true rfl), (ty3.k (by decide) rfl)⟩) (And.intro (Nat.le_of_ble_eq_true rfl) (And.intro (Nat.le_of_ble_eq_true rfl) (kjY_mono ty3 (fun q_ u4 ty4 xu4 h_ => ?_) (kx_id ty3 w2 hB h2 _ rfl)))))))
    obtain ⟨kf, nm3, rfl, p4, p5, w4, s4⟩ := h_
    intro _ _
    refine kjZ_y rfl rfl 1 _ _ _ _ ty4 ?_
    refine (And.intro (Nat.le_of_ble_eq_true rfl) (And.intro (Or.inl ⟨(Nat.le_of_ble_eq_true rfl), (ty4.k (by decide) rfl)⟩) (And.intro (Nat.le_of_ble_eq_true rfl) (And.intro (Nat.le_of_ble_eq_true rfl) (kjY_mono ty4 (fun q_ u5 ty5 xu5 h_ => ?_) (kx_valueOf0 (nm := nm3) ty4 _))))))
    obtain ⟨rfl, q5⟩ := h_
    intro _ _
    obtain ⟨z, rfl⟩ : ∃ z : Int32, q_ = some (.int z) := by
      rcases q5 with ⟨-, h⟩ | ⟨t, kk, -, h, -⟩
      · exact ⟨_, h⟩
      · exact ⟨_, h⟩
    exact fin u5 nm3 z ty5 p5 w4 s4
  · subst f0
    have hs2 : y.2.2.2.2.2.2.1 = 2 := so_1 (s := 2) f2 (fun z => q (Or.inr z))
    have hs0 : ¬ y.2.2.2.2.2.2.1 = 0 := by rw [hs2]; decide
    have kv := (w2.sz hs0).2.2
    have hSP := hS y (List.mem_append_right _ List.mem_cons_self) hs2
    refine kjZ_y rfl rfl 4 _ _ _ _ ty3 ?_
    refine (And.intro (ty3.k (by decide) rfl) (And.intro (Nat.le_of_ble_eq_true rfl) (And.intro (Or.inl ⟨(Nat.le_of_ble_eq_true rfl), (ty3.k (by decide) rfl)⟩) (And.intro (Nat.le_of_ble_eq_true rfl) (And.intro (Nat.le_of_ble_eq_true rfl) (kjY_mono ty3 (fun q_ u4 ty4 xu4 h_ => ?_) (kx_id ty3 w2 hB h2 _ rfl)))))))
    obtain ⟨kf, nm3, rfl, p4, p5, w4, s4⟩ := h_
    intro _ _
    have kv4 := (w4.sz hs0).2.2
    refine kjZ_y rfl rfl 1 _ _ _ _ ty4 ?_
    refine (And.intro (Nat.le_of_ble_eq_true rfl) (And.intro (Or.inl ⟨(Nat.le_of_ble_eq_true rfl), (ty4.k (by decide) rfl)⟩) (And.intro (Nat.le_of_ble_eq_true rfl) (And.intro (Nat.le_of_ble_eq_true rfl) (kjY_mono ty4 (fun q_ u5 ty5 xu5 h_ => ?_) (kx_valueOf ty4 w4 hs2 hSP p4 _ rfl))))))
    obtain ⟨rfl, q5⟩ := h_
    intro _ _
    obtain ⟨z, rfl⟩ : ∃ z : Int32, q_ = some (.int z) := by
      rcases q5 with ⟨-, h⟩ | ⟨t, kk, -, h, -⟩
      · exact ⟨_, h⟩
      · exact ⟨_, h⟩
    exact fin u5 nm3 z ty5 p5 w4 s4
theorem kx_hstrlen (ty : kTY σ) (w : KWd σ0 B σ ws nm ks) (hr : RSD ks) (hB : BOK B ws) {j : Nat} (hj : CMD σ j) {v f : List Int32} (hv : ws[1]? = some v) (h2 : ws[2]? = some f) (hS : ∀ x ∈ ks, x.2.2.2.2.2.2.1 = 2 → SP x.2.2.2.2.2.2.2.2.2.2) : kjY kPP (kQQ Y) (d + 8) 216 0 (mjL0 1 [.ref 71]) [] σ (cdP σ0 B σ ws nm ks none) := by
  have hlen := (List.getElem?_eq_some_iff.mp hv).1
  refine kjZ_y rfl rfl 6 _ _ _ _ ty ?_
  refine (And.intro (ty.k (by decide) rfl) (And.intro (Nat.le_of_ble_eq_true rfl) (And.intro (Or.inl ⟨(Nat.le_of_ble_eq_true rfl), (ty.k (by decide) rfl)⟩) (And.intro (Nat.le_of_ble_eq_true rfl) (And.intro (Nat.le_of_ble_eq_true rfl) (kjY_mono ty (fun q_ u1 ty1 xu1 h_ => ?_) (kx_refuses ty w hB hj (a := 1) (b := 1) (by omega) (by omega) (s := 2) (by decide) _ _ _ rfl rfl rfl)))))))
  obtain ⟨nm1, p1, w1, s1, q⟩ := h_
  intro _ _
  rw [rf1 w hv] at q
  rcases q with ⟨rfl, q⟩ | ⟨rfl, q⟩
  · refine kjZ_y rfl rfl 1 _ _ _ _ ty1 ?_
    refine And.intro (fun c => ?_) (fun c => ?_)
    rotate_left
    · exact absurd (show ¬ (1 : Int32) = 0 by decide) c
    refine kjZ_y rfl rfl 1 _ _ _ _ ty1 ?_
    refine And.intro rfl (And.intro rfl ?_)
    exact cd_no p1 w1 hr s1.h rfl
  refine kjZ_y rfl rfl 1 _ _ _ _ ty1 ?_
  refine And.intro (fun c => ?_) (fun c => ?_)
  · exact absurd rfl c
  obtain ⟨b, hb, eb1⟩ := w1.2.2.2.2.2.2.1
  have kb1 := ob_k ty1 (ANn_b b (ANb_n b hb)).1
  refine kjZ_y rfl rfl 12 _ _ _ _ ty1 ?_
  refine (And.intro (ty1.k (by decide) rfl) (And.intro (ty1.k (by decide) rfl) (Exists.intro _ (And.intro eb1 (And.intro (ty1.k (by decide) rfl) (And.intro (ty1.k (by decide) rfl) (And.intro (ty1.k (by decide) rfl) (And.intro (Nat.le_of_ble_eq_true rfl) (And.intro (Or.inl ⟨(Nat.le_of_ble_eq_true rfl), (ty1.k (by decide) rfl)⟩) (And.intro (Nat.le_of_ble_eq_true rfl) (And.intro (Nat.le_of_ble_eq_true rfl) (kjY_mono ty1 (fun q_ u2 ty2 xu2 h_ => ?_) (kx_id ty1 w1 hB hv _ rfl)))))))))))))
  obtain ⟨k, nm2, rfl, p2, p3, w2, s2⟩ := h_
  intro _ _
  have kb2 := ob_k ty2 (ANn_b b (ANb_n b hb)).1
  refine kjZ_y rfl rfl 1 _ _ _ _ ty2 ?_
  refine (And.intro (Nat.le_of_ble_eq_true rfl) (And.intro (Or.inl ⟨(Nat.le_of_ble_eq_true rfl), (ty2.k (by decide) rfl)⟩) (And.intro (Nat.le_of_ble_eq_true rfl) (And.intro (Nat.le_of_ble_eq_true rfl) (kjY_mono ty2 (fun q_ u3 ty3 xu3 h_ => ?_) (kx_find ty2 w2 p2 _ rfl))))))
  obtain ⟨rfl, q3⟩ := h_
  intro _ _
  have fin : ∀ (u5 : kS) (nm3 : List (List Int32)) (z : Int32), kTY u5 → PRE nm2 nm3 → KWd σ0 B u5 ws nm3 ks → SCl scA u3 u5 → kjY kPP (kQQ Y) (d + 8) 216 25 [some (.ref 71)] [.int z, .ref 48, .ref b] u5 (cdP σ0 B σ ws nm ks none) := by
    intro u5 nm3 z ty5 p5 w5 s5
    have kb5 := ob_k ty5 (ANn_b b (ANb_n b hb)).1
    refine kjZ_y rfl rfl 1 _ _ _ _ ty5 ?_
    refine (And.intro (Nat.le_of_ble_eq_true rfl) (And.intro (Or.inl ⟨(Nat.le_of_ble_eq_true rfl), (ty5.k (by decide) rfl)⟩) (And.intro (Nat.le_of_ble_eq_true rfl) (And.intro (Nat.le_of_ble_eq_true rfl) (kjY_mono ty5 (fun q_ u6 ty6 xu6 h_ => ?_) (k_wlen ty5 w5.2.2.1.1 z))))))
    obtain ⟨rfl, yl, rfl, -⟩ := h_
    intro _ _
    refine kjZ_y rfl rfl 2 _ _ _ _ ty6 ?_
    refine (And.intro (Nat.le_of_ble_eq_true rfl) (And.intro (Or.inl ⟨(Nat.le_of_ble_eq_true rfl), (by assumption)⟩) (And.intro (Nat.le_of_ble_eq_true rfl) (And.intro (Nat.le_of_ble_eq_true rfl) (kjY_mono ty6 (fun q_ u7 ty7 xu7 h_ => ?_) (kx_number ty6 w5 hb _))))))
    obtain ⟨rfl, w7, s7⟩ := h_
    intro _ _
    refine kjZ_y rfl rfl 1 _ _ _ _ ty7 ?_
    refine And.intro rfl (And.intro rfl ?_)
    exact cd_no ((p1.tr p3).tr p5) w7 hr (((s1.tr s2).tr s5).tr s7).h rfl
  rcases q3 with ⟨rfl, q3⟩ | ⟨P, y, Q, rfl, f0, f1, f2⟩
  · refine kjZ_y rfl rfl 4 _ _ _ _ ty3 ?_
    refine (And.intro (ty3.k (by decide) rfl) (And.intro (Nat.le_of_ble_eq_true rfl) (And.intro (Or.inl ⟨(Nat.le_of_ble_eq_true rfl), (ty3.k (by decide) rfl)⟩) (And.intro (Nat.le_of_ble_eq_true rfl) (And.intro (Nat.le_of_ble_eq_true rfl) (kjY_mono ty3 (fun q_ u4 ty4 xu4 h_ => ?_) (kx_id ty3 w2 hB h2 _ rfl)))))))
    obtain ⟨kf, nm3, rfl, p4, p5, w4, s4⟩ := h_
    intro _ _
    have kb4 := ob_k ty4 (ANn_b b (ANb_n b hb)).1
    refine kjZ_y rfl rfl 1 _ _ _ _ ty4 ?_
    refine (And.intro (Nat.le_of_ble_eq_true rfl) (And.intro (Or.inl ⟨(Nat.le_of_ble_eq_true rfl), (ty4.k (by decide) rfl)⟩) (And.intro (Nat.le_of_ble_eq_true rfl) (And.intro (Nat.le_of_ble_eq_true rfl) (kjY_mono ty4 (fun q_ u5 ty5 xu5 h_ => ?_) (kx_valueOf0 (nm := nm3) ty4 _))))))
    obtain ⟨rfl, q5⟩ := h_
    intro _ _
    obtain ⟨z, rfl⟩ : ∃ z : Int32, q_ = some (.int z) := by
      rcases q5 with ⟨-, h⟩ | ⟨t, kk, -, h, -⟩
      · exact ⟨_, h⟩
      · exact ⟨_, h⟩
    exact fin u5 nm3 z ty5 p5 w4 s4
  · subst f0
    have hs2 : y.2.2.2.2.2.2.1 = 2 := so_1 (s := 2) f2 (fun z => q (Or.inr z))
    have hs0 : ¬ y.2.2.2.2.2.2.1 = 0 := by rw [hs2]; decide
    have kv := (w2.sz hs0).2.2
    have hSP := hS y (List.mem_append_right _ List.mem_cons_self) hs2
    refine kjZ_y rfl rfl 4 _ _ _ _ ty3 ?_
    refine (And.intro (ty3.k (by decide) rfl) (And.intro (Nat.le_of_ble_eq_true rfl) (And.intro (Or.inl ⟨(Nat.le_of_ble_eq_true rfl), (ty3.k (by decide) rfl)⟩) (And.intro (Nat.le_of_ble_eq_true rfl) (And.intro (Nat.le_of_ble_eq_true rfl) (kjY_mono ty3 (fun q_ u4 ty4 xu4 h_ => ?_) (kx_id ty3 w2 hB h2 _ rfl)))))))
    obtain ⟨kf, nm3, rfl, p4, p5, w4, s4⟩ := h_
    intro _ _
    have kb4 := ob_k ty4 (ANn_b b (ANb_n b hb)).1
    have kv4 := (w4.sz hs0).2.2
    refine kjZ_y rfl rfl 1 _ _ _ _ ty4 ?_
    refine (And.intro (Nat.le_of_ble_eq_true rfl) (And.intro (Or.inl ⟨(Nat.le_of_ble_eq_true rfl), (ty4.k (by decide) rfl)⟩) (And.intro (Nat.le_of_ble_eq_true rfl) (And.intro (Nat.le_of_ble_eq_true rfl) (kjY_mono ty4 (fun q_ u5 ty5 xu5 h_ => ?_) (kx_valueOf ty4 w4 hs2 hSP p4 _ rfl))))))
    obtain ⟨rfl, q5⟩ := h_
    intro _ _
    obtain ⟨z, rfl⟩ : ∃ z : Int32, q_ = some (.int z) := by
      rcases q5 with ⟨-, h⟩ | ⟨t, kk, -, h, -⟩
      · exact ⟨_, h⟩
      · exact ⟨_, h⟩
    exact fin u5 nm3 z ty5 p5 w4 s4
end KMREAD2
