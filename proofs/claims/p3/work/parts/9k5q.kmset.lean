/-! MSET and MSETNX. -/
section KMSET
variable {Y : Nat → MethodName × ByteArray} {d : Nat} {σ0 σ u : kS} {B ws nm nm' : List (List Int32)} {ks : List KC}
theorem drop2' {ws : List (List Int32)} {i m : Nat} (h : i + 2 * (m + 1) = ws.length) : ∃ w v, ws[i]? = some w ∧ ws[i + 1]? = some v ∧ ws.drop i = w :: v :: ws.drop (i + 2) := drop2 h
theorem k_msnx_l (K : kK) (hB : BOK B ws) (x1 : Int32) (e1 : x1 = 1)
    (hK : ∀ u nm' x2 x3 l4 l5, kTY u → PRE nm nm' → KWd σ0 B u ws nm' ks → SCl scA σ u → ((x2 = 1 ∧ ¬ mxA (skA ks) (ws.drop 1)) ∨ (x2 = 0 ∧ mxA (skA ks) (ws.drop 1))) → kjY kPP (kQQ Y) (d + 6) 176 32 [some (.ref 67), some (.int x1), some (.int x2), some (.int x3), l4, l5] [] u K) :
    ∀ (f i : Nat) (x2 x3 : Int32) (l4 l5 : Option Value) (nm' : List (List Int32)) (u : kS), i + 2 * f = ws.length → x3 = nI i → kTY u → PRE nm nm' → KWd σ0 B u ws nm' ks → SCl scA σ u → ((x2 = 1 ∧ (mxA (skA ks) (ws.drop 1) ↔ mxA (skA ks) (ws.drop i))) ∨ (x2 = 0 ∧ mxA (skA ks) (ws.drop 1))) →
    kjY kPP (kQQ Y) (d + 6) 176 9 [some (.ref 67), some (.int x1), some (.int x2), some (.int x3), l4, l5] [] u K := by
  intro f
  induction f with
  | zero =>
    intro i x2 x3 l4 l5 nm' u hi e3 tu hp wu su hx
    obtain ⟨-, -, -, -, ⟨h4, h1024⟩, -⟩ := wu.2.2.2.1
    refine kjZ_y rfl rfl 5 _ _ _ _ tu ?_
    refine (And.intro (tu.k (by decide) rfl) (And.intro (tu.k (by decide) rfl) (And.intro (fun c => ?_) (fun c => ?_))))
    rotate_left
    · refine absurd (show u.1 53 4 ≤ x3 from ?_) c
      rw [h4, e3, nle (by omega) (by omega)]; omega
    refine hK u nm' x2 x3 l4 l5 tu hp wu su ?_
    rw [List.drop_eq_nil_of_le (by omega : ws.length ≤ i)] at hx
    exact hx.elim (fun z => Or.inl ⟨z.1, fun y => z.2.mp y⟩) Or.inr
  | succ f ih =>
    intro i x2 x3 l4 l5 nm' u hi e3 tu hp wu su hx
    obtain ⟨-, -, -, -, ⟨h4, h1024⟩, -⟩ := wu.2.2.2.1
    obtain ⟨v, a, hv, ha, hdr⟩ := drop2' hi
    have emx : mxA (skA ks) (ws.drop i) ↔ ((¬ kyI (skA ks) v = none) ∨ mxA (skA ks) (ws.drop (i + 2))) := by rw [hdr]; exact Iff.rfl
    refine kjZ_y rfl rfl 5 _ _ _ _ tu ?_
    refine (And.intro (tu.k (by decide) rfl) (And.intro (tu.k (by decide) rfl) (And.intro (fun c => ?_) (fun c => ?_))))
    · refine absurd (show u.1 53 4 ≤ x3 from c) ?_
      rw [h4, e3, nle (by omega) (by omega)]; omega
    refine kjZ_y rfl rfl 2 _ _ _ _ tu ?_
    refine And.intro (fun c2 => ?_) (fun c2 => ?_)
    · exact absurd (e1.symm.trans c2) (by decide)
    refine kjZ_y rfl rfl 7 _ _ _ _ tu ?_
    refine (And.intro (tu.k (by decide) rfl) (And.intro (tu.k (by decide) rfl) (And.intro (Nat.le_of_ble_eq_true rfl) (And.intro (Or.inl ⟨(Nat.le_of_ble_eq_true rfl), (tu.k (by decide) rfl)⟩) (And.intro (Nat.le_of_ble_eq_true rfl) (And.intro (Nat.le_of_ble_eq_true rfl) (kjY_mono tu (fun q_ u1 ty1 xu1 h_ => ?_) (kx_id tu wu hB hv _ e3))))))))
    obtain ⟨k, nm2, rfl, p1, p2, w1, s1⟩ := h_
    intro _ _
    refine kjZ_y rfl rfl 1 _ _ _ _ ty1 ?_
    refine (And.intro (Nat.le_of_ble_eq_true rfl) (And.intro (Or.inl ⟨(Nat.le_of_ble_eq_true rfl), (ty1.k (by decide) rfl)⟩) (And.intro (Nat.le_of_ble_eq_true rfl) (And.intro (Nat.le_of_ble_eq_true rfl) (kjY_mono ty1 (fun q_ u2 ty2 xu2 h_ => ?_) (kx_find ty1 w1 p1 _ rfl))))))
    obtain ⟨rfl, q⟩ := h_
    intro _ _
    have e5 : x3 + Int32.ofInt 2 = nI (i + 2) := by rw [e3]; show nI i + nI 2 = _; rw [nI_add]
    rcases q with ⟨rfl, q⟩ | ⟨P, y, Q, rfl, f0, f1, f2⟩
    · refine kjZ_y rfl rfl 7 _ _ _ _ ty2 ?_
      refine (And.intro (Nat.le_of_ble_eq_true rfl) ?_)
      refine ih (i + 2) _ _ _ _ nm2 u2 (by omega) e5 ty2 (hp.tr p2) w1 (su.tr s1) ?_
      rcases hx with ⟨g1, g2⟩ | ⟨g1, g2⟩
      · refine Or.inl ⟨by rw [g1]; decide, g2.trans (emx.trans ⟨fun z => z.elim (fun z => absurd q z) id, Or.inr⟩)⟩
      · exact Or.inr ⟨by rw [g1]; decide, g2⟩
    · have kv : (u2.2.2.2.1 y.1).1 = 11 := by
        obtain ⟨k2, -, -, hd, -⟩ := w1.val f0
        rw [hd]
      refine kjZ_y rfl rfl 6 _ _ _ _ ty2 ?_
      refine (And.intro (Nat.le_of_ble_eq_true rfl) ?_)
      refine ih (i + 2) _ _ _ _ nm2 u2 (by omega) e5 ty2 (hp.tr p2) w1 (su.tr s1) (Or.inr ⟨?_, ?_⟩)
      · rcases hx with ⟨g1, g2⟩ | ⟨g1, g2⟩
        · rw [g1]; decide
        · rw [g1]; decide
      · rcases hx with ⟨g1, g2⟩ | ⟨g1, g2⟩
        · exact g2.mpr (emx.mpr (Or.inl (by rw [f2]; exact fun z => by cases z)))
        · exact g2
theorem k_mset_l (K : kK) (hB : BOK B ws) (hal : ∀ w ∈ ws, w.length ≤ 16384) {X N : Nat} (hX : X + 16384 ≤ 98304) (hN : N ≤ 2600) {D : List AK} (x1 x2 : Int32) (e2 : x2 = 1)
    (hK : ∀ u nm' ks' x3 l4 l5, kTY u → PRE nm nm' → KWd σ0 B u ws nm' ks' → RSD ks' → SCl scG σ u → skA ks' = D → u.1 59 18 = 1 → kjY kPP (kQQ Y) (d + 6) 176 75 [some (.ref 67), some (.int x1), some (.int x2), some (.int x3), l4, l5] [] u K) :
    ∀ (f i : Nat) (x3 : Int32) (l4 l5 : Option Value) (nm' : List (List Int32)) (ks' : List KC) (u : kS), i + 2 * f = ws.length → x3 = nI i → kTY u → PRE nm nm' → KWd σ0 B u ws nm' ks' → RSD ks' → SCl scG σ u → msA (skA ks') (ws.drop i) = D → (u.1 59 18 = 1 ∨ 1 ≤ f) → xtA (skA ks') + sl (ws.drop i) ≤ X → ks'.length + f ≤ N →
    kjY kPP (kQQ Y) (d + 6) 176 34 [some (.ref 67), some (.int x1), some (.int x2), some (.int x3), l4, l5] [] u K := by
  intro f
  induction f with
  | zero =>
    intro i x3 l4 l5 nm' ks' u hi e3 tu hp wu ru su hD hf hx hn
    obtain ⟨-, -, -, -, ⟨h4, h1024⟩, -⟩ := wu.2.2.2.1
    refine kjZ_y rfl rfl 5 _ _ _ _ tu ?_
    refine (And.intro (tu.k (by decide) rfl) (And.intro (tu.k (by decide) rfl) (And.intro (fun c => ?_) (fun c => ?_))))
    rotate_left
    · refine absurd (show u.1 53 4 ≤ x3 from ?_) c
      rw [h4, e3, nle (by omega) (by omega)]; omega
    rw [List.drop_eq_nil_of_le (by omega : ws.length ≤ i)] at hD
    exact hK u nm' ks' x3 l4 l5 tu hp wu ru su hD (hf.elim id (fun z => absurd z (by decide)))
  | succ f ih =>
    intro i x3 l4 l5 nm' ks' u hi e3 tu hp wu ru su hD hf hx hn
    obtain ⟨-, -, -, -, ⟨h4, h1024⟩, -⟩ := wu.2.2.2.1
    obtain ⟨v, a, hv, ha, hdr⟩ := drop2' hi
    have hal1 := hal a (List.mem_of_getElem? ha)
    rw [hdr] at hD hx
    have hD : msA (upA (setA (skA ks') v a) (orA (skA ks') v 0).2 untF) (ws.drop (i + 2)) = D := hD
    have hx : xtA (skA ks') + (v.length + (a.length + sl (ws.drop (i + 2)))) ≤ X := hx
    refine kjZ_y rfl rfl 5 _ _ _ _ tu ?_
    refine (And.intro (tu.k (by decide) rfl) (And.intro (tu.k (by decide) rfl) (And.intro (fun c => ?_) (fun c => ?_))))
    · refine absurd (show u.1 53 4 ≤ x3 from c) ?_
      rw [h4, e3, nle (by omega) (by omega)]; omega
    refine kjZ_y rfl rfl 2 _ _ _ _ tu ?_
    refine And.intro (fun c2 => ?_) (fun c2 => ?_)
    · exact absurd (e2.symm.trans c2) (by decide)
    refine kjZ_y rfl rfl 4 _ _ _ _ tu ?_
    refine (And.intro (tu.k (by decide) rfl) (And.intro (Nat.le_of_ble_eq_true rfl) (And.intro (Or.inl ⟨(Nat.le_of_ble_eq_true rfl), (tu.k (by decide) rfl)⟩) (And.intro (Nat.le_of_ble_eq_true rfl) (And.intro (Nat.le_of_ble_eq_true rfl) (kjY_mono tu (fun q_ u1 ty1 xu1 h_ => ?_) (kx_id tu wu hB hv _ e3)))))))
    obtain ⟨k, nm2, rfl, p1, p2, w1, s1⟩ := h_
    intro _ _
    refine kjZ_y rfl rfl 6 _ _ _ _ ty1 ?_
    refine (And.intro (Nat.le_of_ble_eq_true rfl) (And.intro (ty1.k (by decide) rfl) (And.intro (Nat.le_of_ble_eq_true rfl) (And.intro (Or.inl ⟨(Nat.le_of_ble_eq_true rfl), (ty1.k (by decide) rfl)⟩) (And.intro (Nat.le_of_ble_eq_true rfl) (And.intro (Nat.le_of_ble_eq_true rfl) (kjY_mono ty1 (fun q_ u3 ty3 xu3 h_ => ?_) (kx_fresh ty1 w1 p1 (s := 0) (by decide) (fun _ => by omega) _ _ rfl rfl))))))))
    obtain ⟨P, x, Q, rfl, w3, s3, g1, g2, g3, g4⟩ := h_
    intro _ _
    have hs : x.2.2.2.2.2.2.1 = 0 := by rw [g2]; rfl
    have hxx : x.2.2.2.2.2.2.2.2.2.1 = [] := by rw [g2]
    have kv := (w3.tz hs).2.2
    have hPQ : xtA (skA P) + xtA (skA Q) ≤ xtA (skA ks') := by
      rcases g4 with ⟨y, g5, -⟩ | ⟨g5, -⟩
      · rw [g5, xtA_at]; omega
      · rw [g5, xtA_app]; omega
    have hlPQ : P.length + Q.length ≤ ks'.length := by
      rcases g4 with ⟨y, g5, -⟩ | ⟨g5, -⟩
      · rw [g5, List.length_append, List.length_cons]; omega
      · rw [g5, List.length_append]; omega
    have hrs : RSD (P ++ Q) := by
      rcases g4 with ⟨y, g5, -⟩ | ⟨g5, -⟩
      · rw [g5] at ru; exact ru.two.1
      · rw [← g5]; exact ru
    have eor : upA (setA (skA ks') v a) (orA (skA ks') v 0).2 untF = skA P ++ (v, 0, 0, 0, a, []) :: skA Q := by
      unfold setA orA
      rcases g4 with ⟨y, g5, g6, g7, -⟩ | ⟨g5, g6, g7, -⟩
      · rw [g7]; show upA (upA (skA ks') P.length _) P.length untF = _
        rw [g5, skA_app, skA_cons, ← skA_len P, upA_at, upA_at]
        unfold untF; rw [g6]
      · rw [g6]; show upA (upA (inA (skA ks') (plF (anm (skA ks')) v) (v, 0, 0, 0, [], [])) (plF (anm (skA ks')) v) _) (plF (anm (skA ks')) v) untF = _
        rw [← g7, g5, skA_app]
        unfold inA
        have el : P.length = (skA P).length := (skA_len P).symm
        rw [el, List.take_left, List.drop_left, upA_at, upA_at]; rfl
    have e5 : x3 + Int32.ofInt 1 = nI (i + 1) := by rw [e3]; exact nI_1 i
    refine kjZ_y rfl rfl 9 _ _ _ _ ty3 ?_
    refine (And.intro (Nat.le_of_ble_eq_true rfl) (And.intro (ty3.k (by decide) rfl) (And.intro (Nat.le_of_ble_eq_true rfl) (And.intro (Or.inl ⟨(Nat.le_of_ble_eq_true rfl), (ty3.k (by decide) rfl)⟩) (And.intro (Nat.le_of_ble_eq_true rfl) (And.intro (Nat.le_of_ble_eq_true rfl) (kjY_mono ty3 (fun q_ u4 ty4 xu4 h_ => ?_) (kx_lengthOf ty3 w3 ha _ e5))))))))
    obtain ⟨rfl, rfl⟩ := h_
    intro _ _
    refine kjZ_y rfl rfl 1 _ _ _ _ ty4 ?_
    refine (And.intro (Nat.le_of_ble_eq_true rfl) (And.intro (Or.inl ⟨(Nat.le_of_ble_eq_true rfl), (ty4.k (by decide) rfl)⟩) (And.intro (Nat.le_of_ble_eq_true rfl) (And.intro (Nat.le_of_ble_eq_true rfl) (kjY_mono ty4 (fun q_ u5 ty5 xu5 h_ => ?_) (kx_stretch ty4 w3 hs (m := a.length) hal1 (by rw [xtA_at, if_pos hs, hxx]; show _ + 0 + _ + _ ≤ _; omega) _ rfl))))))
    obtain ⟨rfl, w5, s5⟩ := h_
    intro _ _
    have kv5 : (u5.2.2.2.1 x.1).1 = 11 := xu5.k ty4 kv (by decide)
    refine kjZ_y rfl rfl 7 _ _ _ _ ty5 ?_
    refine (And.intro (Nat.le_of_ble_eq_true rfl) (And.intro (Or.inl ⟨(Nat.le_of_ble_eq_true rfl), (ty5.k (by decide) rfl)⟩) (And.intro (Nat.le_of_ble_eq_true rfl) (And.intro (Nat.le_of_ble_eq_true rfl) (kjY_mono ty5 (fun q_ u6 ty6 xu6 h_ => ?_) (kx_overlayA (y := mkK x (txG (stT a.length) x.2.2.2.2.2)) ty5 w5 hs (wkO_mk _ _) ha (p := 0) (by show 0 + a.length ≤ (stT _ _).length; rw [stT_len]; omega) _ _ rfl e5))))))
    obtain ⟨rfl, w6, s6⟩ := h_
    intro _ _
    have kv6 : (u6.2.2.2.1 x.1).1 = 11 := xu6.k ty5 kv5 (by decide)
    have ek : mkK (mkK x (txG (stT a.length) x.2.2.2.2.2)) (txG (ovT 0 a) (mkK x (txG (stT a.length) x.2.2.2.2.2)).2.2.2.2.2) = mkK x (v, 0, 0, 0, a, []) := by
      rw [g2]
      show mkK x (v, nI 0, 0, 0, ovT 0 a (stT a.length []), []) = _
      rw [ovT_all]; rfl
    rw [ek] at w6
    refine kjZ_y rfl rfl 5 _ _ _ _ ty6 ?_
    refine (And.intro (ty6.k (by decide) rfl) (And.intro (Nat.le_of_ble_eq_true rfl) (And.intro (Or.inl ⟨(Nat.le_of_ble_eq_true rfl), (ty6.k (by decide) rfl)⟩) (And.intro (Nat.le_of_ble_eq_true rfl) (And.intro (Nat.le_of_ble_eq_true rfl) (kjY_mono ty6 (fun q_ u8 ty8 xu8 h_ => ?_) (kx_settle (x := mkK x (v, 0, 0, 0, a, [])) ty6 w6 (k := k) p1 _ rfl)))))))
    obtain ⟨q9, q9b⟩ := h_
    intro _ _
    have kv8 : (u8.2.2.2.1 x.1).1 = 11 := xu8.k ty6 kv6 (by decide)
    have hem : ¬ emB (mkK x (v, 0, 0, 0, a, [])) := fun y => y.1 rfl
    obtain ⟨rfl, nmA, ksA, pA, wA, rA, eA, cA, sA⟩ := cd_se (σ := σ) (nm := nm) (hp.tr p2) (su.tr ((s1.tr s3).tr (s5.tr s6)).g) ⟨q9, q9b⟩ (wkO_mk _ _) hrs (fun z => absurd z hem) (fun _ => rfl)
    have eA2 : skA ksA = skA P ++ (v, 0, 0, 0, a, []) :: skA Q := by rw [eA, skA_app, skA_cons]; rfl
    have e6 : x3 + Int32.ofInt 2 = nI (i + 2) := by rw [e3]; show nI i + nI 2 = _; rw [nI_add]
    refine kjZ_y rfl rfl 2 _ _ _ _ ty8 ?_
    refine ih (i + 2) _ _ _ nmA ksA u8 (by omega) e6 ty8 pA wA rA sA (by rw [eA2, ← eor]; exact hD) (Or.inl cA) ?_ ?_
    · rw [eA, xtA_at]
      show _ + (if (0 : Int32) = 0 then a.length else 0) + _ + _ ≤ X
      rw [if_pos rfl]; omega
    · have e7 := congrArg List.length eA2
      rw [skA_len, List.length_append, List.length_cons, skA_len, skA_len] at e7; omega
end KMSET
