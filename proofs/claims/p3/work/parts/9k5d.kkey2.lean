/-! DEL, EXISTS, TYPE, FLUSHALL. -/
section KKEY2
variable {Y : Nat → MethodName × ByteArray} {d : Nat} {σ0 σ u : kS} {B ws nm nm' : List (List Int32)} {ks : List KC}
theorem KWd.ix (w : KWd σ0 B σ ws nm ks) : ∃ ri NK, σ.2.2.1 59 3 = some ri ∧ σ.2.2.2.1 ri = (20, NK) ∧ ks.length ≤ NK ∧ NK ≤ 5200 ∧ σ.1 59 13 = nI ks.length := by
  obtain ⟨fr, vs, hR, hV⟩ := w.2.2.2.2.1
  obtain ⟨ri, rs, rh, NK, rt, NT, rn, Nn, te, rc, NC, rm, Nm, ce, ls, hG⟩ := hR
  obtain ⟨⟨⟨i1, i2⟩, -, -, i7, i8⟩, a2, a3, ⟨⟨b1, b2, b3, b4, b5⟩, -⟩, a5, a6, a7⟩ := hG
  rw [List.length_map] at b1 b3
  exact ⟨ri, NK, i1, i2, by omega, i8, b1⟩
theorem k_del_l (K : kK) (hB : BOK B ws) {D : List AK} {N : Nat}
    (hK : ∀ u nm' ks' x1 x2, kTY u → PRE nm nm' → KWd σ0 B u ws nm' ks' → RSD ks' → SCl scG σ u → skA ks' = D → ((N = 0 ∧ u.1 59 18 = σ.1 59 18) ∨ ((¬ N = 0) ∧ u.1 59 18 = 1)) → kjY kPP (kQQ Y) (d + 6) 151 19 [some (.ref 59), some (.int x1), some (.int x2)] [] u K) :
    ∀ (f i m : Nat) (x1 x2 : Int32) (nm' : List (List Int32)) (ks' : List KC) (u : kS), i + f = ws.length → x2 = nI i → kTY u → PRE nm nm' → KWd σ0 B u ws nm' ks' → RSD ks' → SCl scG σ u → dlA (skA ks') (ws.drop i) = D → m + dlN (skA ks') (ws.drop i) = N → ((m = 0 ∧ u.1 59 18 = σ.1 59 18) ∨ ((¬ m = 0) ∧ u.1 59 18 = 1)) →
    kjY kPP (kQQ Y) (d + 6) 151 4 [some (.ref 59), some (.int x1), some (.int x2)] [] u K := by
  intro f
  induction f with
  | zero =>
    intro i m x1 x2 nm' ks' u hi e2 tu hp wu ru su hD hN hm
    obtain ⟨-, -, -, -, ⟨h4, h1024⟩, -⟩ := wu.2.2.2.1
    rw [List.drop_eq_nil_of_le (by omega)] at hD hN
    refine kjZ_y rfl rfl 5 _ _ _ _ tu ?_
    refine (And.intro (tu.k (by decide) rfl) (And.intro (tu.k (by decide) rfl) (And.intro (fun c => ?_) (fun c => ?_))))
    rotate_left
    · refine absurd (show u.1 53 4 ≤ x2 from ?_) c
      rw [h4, e2, nle (by omega) (by omega)]; omega
    have hN : m = N := hN
    rw [hN] at hm
    exact hK u nm' ks' x1 x2 tu hp wu ru su hD hm
  | succ f ih =>
    intro i m x1 x2 nm' ks' u hi e2 tu hp wu ru su hD hN hm
    obtain ⟨-, -, -, -, ⟨h4, h1024⟩, -⟩ := wu.2.2.2.1
    obtain ⟨v, hv, hdr⟩ := drop1 hi
    rw [hdr] at hD hN
    have hD : dlA (delA (skA ks') v) (ws.drop (i + 1)) = D := hD
    have hN : m + ((if kyI (skA ks') v = none then 0 else 1) + dlN (delA (skA ks') v) (ws.drop (i + 1))) = N := hN
    refine kjZ_y rfl rfl 5 _ _ _ _ tu ?_
    refine (And.intro (tu.k (by decide) rfl) (And.intro (tu.k (by decide) rfl) (And.intro (fun c => ?_) (fun c => ?_))))
    · refine absurd (show u.1 53 4 ≤ x2 from c) ?_
      rw [h4, e2, nle (by omega) (by omega)]; omega
    refine kjZ_y rfl rfl 5 _ _ _ _ tu ?_
    refine (And.intro (tu.k (by decide) rfl) (And.intro (Nat.le_of_ble_eq_true rfl) (And.intro (Or.inl ⟨(Nat.le_of_ble_eq_true rfl), (tu.k (by decide) rfl)⟩) (And.intro (Nat.le_of_ble_eq_true rfl) (And.intro (Nat.le_of_ble_eq_true rfl) (kjY_mono tu (fun q_ u1 ty1 xu1 h_ => ?_) (kx_id tu wu hB hv _ e2)))))))
    obtain ⟨k, nm2, rfl, p1, p2, w1, s1⟩ := h_
    intro _ _
    refine kjZ_y rfl rfl 1 _ _ _ _ ty1 ?_
    refine (And.intro (Nat.le_of_ble_eq_true rfl) (And.intro (Or.inl ⟨(Nat.le_of_ble_eq_true rfl), (ty1.k (by decide) rfl)⟩) (And.intro (Nat.le_of_ble_eq_true rfl) (And.intro (Nat.le_of_ble_eq_true rfl) (kjY_mono ty1 (fun q_ u2 ty2 xu2 h_ => ?_) (kx_remove ty1 w1 p1 _ rfl))))))
    obtain ⟨s2, q⟩ := h_
    intro _ _
    have sG : SCl scG σ u2 := (su.tr s1.g).tr (s2.sub scGE)
    rcases q with ⟨rfl, q1, w2, s3⟩ | ⟨rfl, P, y, Q, f0, q1, w2, q2⟩
    · have ed : delA (skA ks') v = skA ks' := by unfold delA; rw [q1]
      rw [ed] at hD hN
      rw [if_pos q1] at hN
      refine kjZ_y rfl rfl 1 _ _ _ _ ty2 ?_
      refine And.intro (fun c2 => ?_) (fun c2 => ?_)
      rotate_left
      · exact absurd rfl c2
      refine kjZ_y rfl rfl 2 _ _ _ _ ty2 ?_
      refine ih (i + 1) m _ _ nm2 ks' u2 (by omega) (by rw [e2]; exact nI_1 i) ty2 (hp.tr p2) w2 ru sG hD (by omega) ?_
      rw [((s1.tr s3) (59, 18) (by decide)).1]; exact hm
    · subst f0
      have ed : delA (skA (P ++ y :: Q)) v = skA (P ++ Q) := by
        unfold delA; rw [q1]; show rmA _ _ = _
        rw [skA_app, skA_cons, ← skA_len P, rmA_at, skA_app]
      rw [ed] at hD hN
      rw [if_neg (by rw [q1]; exact fun z => by cases z)] at hN
      refine kjZ_y rfl rfl 1 _ _ _ _ ty2 ?_
      refine And.intro (fun c2 => ?_) (fun c2 => ?_)
      · exact absurd (show (1 : Int32) = 0 from c2) (by decide)
      refine kjZ_y rfl rfl 3 _ _ _ _ ty2 ?_
      exact ih (i + 1) (m + 1) _ _ nm2 (P ++ Q) u2 (by omega) (by rw [e2]; exact nI_1 i) ty2 (hp.tr p2) w2 ru.two.1 sG hD (by omega) (Or.inr ⟨by omega, q2⟩)
theorem kx_del (ty : kTY σ) (w : KWd σ0 B σ ws nm ks) (hr : RSD ks) (hB : BOK B ws) (h1 : 1 ≤ ws.length) {o : Option (List AK)} (ho : o = delF (skA ks) (ws.drop 1)) :
    kjY kPP (kQQ Y) (d + 6) 151 0 (mjL0 3 [.ref 59]) [] σ (cdP σ0 B σ ws nm ks o) := by
  refine kjZ_y rfl rfl 4 _ _ _ _ ty ?_
  refine (And.intro (Nat.le_of_ble_eq_true rfl) (And.intro (Nat.le_of_ble_eq_true rfl) ?_))
  refine k_del_l (σ := σ) (nm := nm) (D := dlA (skA ks) (ws.drop 1)) (N := dlN (skA ks) (ws.drop 1)) _ hB ?_ (ws.length - 1) 1 0 _ _ nm ks σ (by omega) rfl ty PRE.rf w hr SCl.rf rfl (Nat.zero_add _) (Or.inl ⟨rfl, rfl⟩)
  intro u nm' ks' x1 x2 tu hp wu ru su hD hm
  obtain ⟨b, hb, eb⟩ := wu.2.2.2.2.2.2.1
  have kb := ob_k tu (ANn_b b (ANb_n b hb)).1
  refine kjZ_y rfl rfl 6 _ _ _ _ tu ?_
  refine (And.intro (tu.k (by decide) rfl) (And.intro (tu.k (by decide) rfl) (Exists.intro _ (And.intro eb (And.intro (Nat.le_of_ble_eq_true rfl) (And.intro (Or.inl ⟨(Nat.le_of_ble_eq_true rfl), (by assumption)⟩) (And.intro (Nat.le_of_ble_eq_true rfl) (And.intro (Nat.le_of_ble_eq_true rfl) (kjY_mono tu (fun q_ u1 ty1 xu1 h_ => ?_) (kx_number tu wu hb _))))))))))
  obtain ⟨rfl, w1, s1⟩ := h_
  intro _ _
  refine kjZ_y rfl rfl 1 _ _ _ _ ty1 ?_
  refine And.intro rfl (And.intro rfl ?_)
  have ec := (s1 (59, 18) (by decide)).1
  rcases hm with ⟨m1, m2⟩ | ⟨m1, m2⟩
  · refine ⟨rfl, nm', ks', hp, w1, ru, su.tr s1.g, Or.inl ⟨by rw [ho]; unfold delF; rw [if_pos m1], ?_, ec.trans m2⟩⟩
    rw [hD]; exact dlN_0 _ _ m1
  · exact ⟨rfl, nm', ks', hp, w1, ru, su.tr s1.g, Or.inr ⟨by rw [ho, hD]; unfold delF; rw [if_neg m1], ec.trans m2⟩⟩
theorem k_exi_l (K : kK) (hB : BOK B ws)
    (hK : ∀ u nm' x1 x2, kTY u → PRE nm nm' → KWd σ0 B u ws nm' ks → SCl scA σ u → kjY kPP (kQQ Y) (d + 6) 152 19 [some (.ref 59), some (.int x1), some (.int x2)] [] u K) :
    ∀ (f i : Nat) (x1 x2 : Int32) (nm' : List (List Int32)) (u : kS), i + f = ws.length → x2 = nI i → kTY u → PRE nm nm' → KWd σ0 B u ws nm' ks → SCl scA σ u →
    kjY kPP (kQQ Y) (d + 6) 152 4 [some (.ref 59), some (.int x1), some (.int x2)] [] u K := by
  intro f
  induction f with
  | zero =>
    intro i x1 x2 nm' u hi e2 tu hp wu su
    obtain ⟨-, -, -, -, ⟨h4, h1024⟩, -⟩ := wu.2.2.2.1
    refine kjZ_y rfl rfl 5 _ _ _ _ tu ?_
    refine (And.intro (tu.k (by decide) rfl) (And.intro (tu.k (by decide) rfl) (And.intro (fun c => ?_) (fun c => ?_))))
    rotate_left
    · refine absurd (show u.1 53 4 ≤ x2 from ?_) c
      rw [h4, e2, nle (by omega) (by omega)]; omega
    exact hK u nm' x1 x2 tu hp wu su
  | succ f ih =>
    intro i x1 x2 nm' u hi e2 tu hp wu su
    obtain ⟨-, -, -, -, ⟨h4, h1024⟩, -⟩ := wu.2.2.2.1
    obtain ⟨v, hv, hdr⟩ := drop1 hi
    refine kjZ_y rfl rfl 5 _ _ _ _ tu ?_
    refine (And.intro (tu.k (by decide) rfl) (And.intro (tu.k (by decide) rfl) (And.intro (fun c => ?_) (fun c => ?_))))
    · refine absurd (show u.1 53 4 ≤ x2 from c) ?_
      rw [h4, e2, nle (by omega) (by omega)]; omega
    refine kjZ_y rfl rfl 5 _ _ _ _ tu ?_
    refine (And.intro (tu.k (by decide) rfl) (And.intro (Nat.le_of_ble_eq_true rfl) (And.intro (Or.inl ⟨(Nat.le_of_ble_eq_true rfl), (tu.k (by decide) rfl)⟩) (And.intro (Nat.le_of_ble_eq_true rfl) (And.intro (Nat.le_of_ble_eq_true rfl) (kjY_mono tu (fun q_ u1 ty1 xu1 h_ => ?_) (kx_id tu wu hB hv _ e2)))))))
    obtain ⟨k, nm2, rfl, p1, p2, w1, s1⟩ := h_
    intro _ _
    refine kjZ_y rfl rfl 1 _ _ _ _ ty1 ?_
    refine (And.intro (Nat.le_of_ble_eq_true rfl) (And.intro (Or.inl ⟨(Nat.le_of_ble_eq_true rfl), (ty1.k (by decide) rfl)⟩) (And.intro (Nat.le_of_ble_eq_true rfl) (And.intro (Nat.le_of_ble_eq_true rfl) (kjY_mono ty1 (fun q_ u2 ty2 xu2 h_ => ?_) (kx_find ty1 w1 p1 _ rfl))))))
    obtain ⟨rfl, q⟩ := h_
    intro _ _
    rcases q with ⟨rfl, q⟩ | ⟨P, y, Q, rfl, f0, f1, f2⟩
    · refine kjZ_y rfl rfl 3 _ _ _ _ ty2 ?_
      exact ih (i + 1) _ _ nm2 u2 (by omega) (by rw [e2]; exact nI_1 i) ty2 (hp.tr p2) w1 (su.tr s1)
    · refine kjZ_y rfl rfl 4 _ _ _ _ ty2 ?_
      exact ih (i + 1) _ _ nm2 u2 (by omega) (by rw [e2]; exact nI_1 i) ty2 (hp.tr p2) w1 (su.tr s1)
theorem kx_exists (ty : kTY σ) (w : KWd σ0 B σ ws nm ks) (hr : RSD ks) (hB : BOK B ws) (h1 : 1 ≤ ws.length) :
    kjY kPP (kQQ Y) (d + 6) 152 0 (mjL0 3 [.ref 59]) [] σ (cdP σ0 B σ ws nm ks none) := by
  refine kjZ_y rfl rfl 4 _ _ _ _ ty ?_
  refine (And.intro (Nat.le_of_ble_eq_true rfl) (And.intro (Nat.le_of_ble_eq_true rfl) ?_))
  refine k_exi_l (σ := σ) (nm := nm) _ hB ?_ (ws.length - 1) 1 _ _ nm σ (by omega) rfl ty PRE.rf w SCl.rf
  intro u nm' x1 x2 tu hp wu su
  obtain ⟨b, hb, eb⟩ := wu.2.2.2.2.2.2.1
  have kb := ob_k tu (ANn_b b (ANb_n b hb)).1
  refine kjZ_y rfl rfl 6 _ _ _ _ tu ?_
  refine (And.intro (tu.k (by decide) rfl) (And.intro (tu.k (by decide) rfl) (Exists.intro _ (And.intro eb (And.intro (Nat.le_of_ble_eq_true rfl) (And.intro (Or.inl ⟨(Nat.le_of_ble_eq_true rfl), (by assumption)⟩) (And.intro (Nat.le_of_ble_eq_true rfl) (And.intro (Nat.le_of_ble_eq_true rfl) (kjY_mono tu (fun q_ u1 ty1 xu1 h_ => ?_) (kx_number tu wu hb _))))))))))
  obtain ⟨rfl, w1, s1⟩ := h_
  intro _ _
  refine kjZ_y rfl rfl 1 _ _ _ _ ty1 ?_
  refine And.intro rfl (And.intro rfl ?_)
  exact cd_no hp w1 hr (su.tr s1).h rfl
theorem kx_sort0 (ty : kTY σ) (w : KWd σ0 B σ ws nm ks) : kjY kPP (kQQ Y) (d + 7) 153 0 (mjL0 2 [.ref 59, .null]) [] σ (wP σ0 B σ ws nm ks) := by
  obtain ⟨b, hb, eb⟩ := w.2.2.2.2.2.2.1
  have kb := ob_k ty (ANn_b b (ANb_n b hb)).1
  refine kjZ_y rfl rfl 8 _ _ _ _ ty ?_
  refine (And.intro (ty.k (by decide) rfl) (And.intro (ty.k (by decide) rfl) (Exists.intro _ (And.intro eb (And.intro rfl (And.intro (Nat.le_of_ble_eq_true rfl) (And.intro (Or.inl ⟨(Nat.le_of_ble_eq_true rfl), (by assumption)⟩) (And.intro (Nat.le_of_ble_eq_true rfl) (And.intro (Nat.le_of_ble_eq_true rfl) (kjY_mono ty (fun q_ u1 ty1 xu1 h_ => ?_) (kx_line ty w hb _ (by decide))))))))))))
  obtain ⟨rfl, w1⟩ := h_
  intro _ _
  refine kjZ_y rfl rfl 1 _ _ _ _ ty1 ?_
  refine And.intro rfl (And.intro rfl ?_)
  exact ⟨rfl, w1⟩
theorem kx_sort (ty : kTY σ) {P Q : List KC} {y : KC} (w : KWd σ0 B σ ws nm (P ++ y :: Q)) : kjY kPP (kQQ Y) (d + 7) 153 0 (mjL0 2 [.ref 59, .ref y.1]) [] σ (wP σ0 B σ ws nm (P ++ y :: Q)) := by
  obtain ⟨b, hb, eb⟩ := w.2.2.2.2.2.2.1
  have kb := ob_k ty (ANn_b b (ANb_n b hb)).1
  obtain ⟨k2, -, -, hd, -⟩ := w.val rfl
  have kv : (σ.2.2.2.1 y.1).1 = 11 := by rw [hd]
  have go : ∀ i : Nat, i < 185 → kjY kPP (kQQ Y) (d + 7) 153 37 [some (.ref 59), some (.ref y.1)] [.ref (2000000 + i), .int (Int32.ofInt 43), .ref b] σ (wP σ0 B σ ws nm (P ++ y :: Q)) := by
    intro i hi
    refine kjZ_y rfl rfl 1 _ _ _ _ ty ?_
    refine (And.intro (Nat.le_of_ble_eq_true rfl) (And.intro (Or.inl ⟨(Nat.le_of_ble_eq_true rfl), (by assumption)⟩) (And.intro (Nat.le_of_ble_eq_true rfl) (And.intro (Nat.le_of_ble_eq_true rfl) (kjY_mono ty (fun q_ u1 ty1 xu1 h_ => ?_) (kx_line ty w hb _ hi))))))
    obtain ⟨rfl, w1⟩ := h_
    intro _ _
    refine kjZ_y rfl rfl 1 _ _ _ _ ty1 ?_
    refine And.intro rfl (And.intro rfl ?_)
    exact ⟨rfl, w1⟩
  refine kjZ_y rfl rfl 9 _ _ _ _ ty ?_
  refine (And.intro (ty.k (by decide) rfl) (And.intro (ty.k (by decide) rfl) (Exists.intro _ (And.intro eb (And.intro (by assumption) (And.intro (fun c => ?_) (fun c => ?_)))))))
  rotate_left
  · refine kjZ_y rfl rfl 2 _ _ _ _ ty ?_
    refine (And.intro rfl ?_)
    exact go _ (by decide)
  refine kjZ_y rfl rfl 4 _ _ _ _ ty ?_
  refine (And.intro (by assumption) (And.intro (fun c2 => ?_) (fun c2 => ?_)))
  rotate_left
  · refine kjZ_y rfl rfl 2 _ _ _ _ ty ?_
    refine (And.intro rfl ?_)
    exact go _ (by decide)
  refine kjZ_y rfl rfl 4 _ _ _ _ ty ?_
  refine (And.intro (by assumption) (And.intro (fun c3 => ?_) (fun c3 => ?_)))
  rotate_left
  · refine kjZ_y rfl rfl 2 _ _ _ _ ty ?_
    refine (And.intro rfl ?_)
    exact go _ (by decide)
  refine kjZ_y rfl rfl 4 _ _ _ _ ty ?_
  refine (And.intro (by assumption) (And.intro (fun c4 => ?_) (fun c4 => ?_)))
  rotate_left
  · refine kjZ_y rfl rfl 2 _ _ _ _ ty ?_
    refine (And.intro rfl ?_)
    exact go _ (by decide)
  refine kjZ_y rfl rfl 1 _ _ _ _ ty ?_
  refine (And.intro rfl ?_)
  exact go _ (by decide)
end KKEY2
