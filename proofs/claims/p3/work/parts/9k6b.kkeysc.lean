/-! KEYS; all keys are forgotten. -/
section KKEYSC
variable {Y : Nat → MethodName × ByteArray} {d : Nat} {σ0 σ u : kS} {B ws nm nm' : List (List Int32)} {ks : List KC}
theorem KWd.rows (w : KWd σ0 B σ ws nm ks) : ∃ ri NK, σ.2.2.1 59 3 = some ri ∧ σ.2.2.2.1 ri = (20, NK) ∧ σ.1 59 13 = nI ks.length ∧ ks.length ≤ NK ∧ NK < 2 ^ 29 := by
  obtain ⟨fr, vs, hR, hV⟩ := w.2.2.2.2.1
  obtain ⟨ri, rs, rh, NK, rt, NT, rn, Nn, te, rc, NC, rm, Nm, ce, ls, hG⟩ := hR
  obtain ⟨⟨⟨i1, i2⟩, ⟨i3, i4⟩, ⟨i5, i6⟩, i7, i8⟩, a2, a3, ⟨⟨b1, b2, b3, b4, b5⟩, b6, b7, b8, b9, b10⟩, a5, a6, a7⟩ := hG
  rw [List.length_map] at b1 b3
  exact ⟨ri, NK, i1, i2, b1, by omega, by omega⟩
theorem kx_keys_1 (K : kK) {p1 : List Int32} (hv : ws[1]? = some p1) {a : Nat} (x1 x2 : Int32) {g M : Nat} (tu : kTY u) (wu : KWd σ0 B u ws nm ks) (f3 : u.2.2.1 53 3 = some g) (kg : u.2.2.2.1 g = (21, M)) (hM : M ≤ 600000) (ha : a + p1.length ≤ M) (e1 : x1 = nI a) (e2 : x2 = nI (a + p1.length))
    (hK : ∀ x3 x4 : Int32, kjY kPP (kQQ Y) (d + 6) 156 36 [some (.ref 59), some (.int x1), some (.int x2), some (.int x3), some (.int x4)] [] u K) :
    ∀ (f i : Nat) (x3 x4 : Int32), i + f = ks.length → x4 = nI i → kjY kPP (kQQ Y) (d + 6) 156 16 [some (.ref 59), some (.int x1), some (.int x2), some (.int x3), some (.int x4)] [] u K := by
  obtain ⟨ri, NK, r1, r2, r3, r4, r5⟩ := wu.rows
  intro f
  induction f with
  | zero =>
    intro i x3 x4 hi e4
    refine kjZ_y rfl rfl 4 _ _ _ _ tu ?_
    refine (And.intro (tu.k (by decide) rfl) (And.intro (fun c => ?_) (fun c => ?_)))
    · exact hK x3 x4
    · refine absurd (show u.1 59 13 ≤ x4 from ?_) c
      rw [r3, e4, nle (by omega) (by omega)]; omega
  | succ f ih =>
    intro i x3 x4 hi e4
    refine kjZ_y rfl rfl 4 _ _ _ _ tu ?_
    refine (And.intro (tu.k (by decide) rfl) (And.intro (fun c => ?_) (fun c => ?_)))
    · refine absurd (show u.1 59 13 ≤ x4 from c) ?_
      rw [r3, e4, nle (by omega) (by omega)]; omega
    refine kjZ_y rfl rfl 12 _ _ _ _ tu ?_
    refine (And.intro (tu.k (by decide) rfl) (And.intro (tu.k (by decide) rfl) (And.intro (tu.k (by decide) rfl) (Exists.intro _ (And.intro f3 (And.intro (tu.k (by decide) rfl) (Exists.intro _ (And.intro r1 (Or.inl (And.intro (kdk r2) (And.intro (kdv r2 (by rw [e4]; exact vp_in_nI (by omega) (by omega))) (And.intro (Nat.le_of_ble_eq_true rfl) (And.intro (Or.inl ⟨(Nat.le_of_ble_eq_true rfl), (tu.k (by decide) rfl)⟩) (And.intro (Nat.le_of_ble_eq_true rfl) (And.intro (Nat.le_of_ble_eq_true rfl) (kjY_mono tu (fun q_ u1 ty1 xu1 h_ => ?_) (k_fits tu wu.2.2.1.1 kg hM (Nat.le_add_right _ _) ha _ _ _ e1 e2)))))))))))))))))
    obtain ⟨rfl, z, rfl, q⟩ := h_
    intro _ _
    have nx : ∀ x3, kjY kPP (kQQ Y) (d + 6) 156 34 [some (.ref 59), some (.int x1), some (.int x2), some (.int x3), some (.int x4)] [] u1 K := by
      intro x3
      refine kjZ_y rfl rfl 2 _ _ _ _ ty1 ?_
      exact ih (i + 1) _ _ (by omega) (by rw [e4]; exact nI_1 i)
    refine kjZ_y rfl rfl 1 _ _ _ _ ty1 ?_
    refine And.intro (fun c2 => ?_) (fun c2 => ?_)
    · exact nx _
    refine kjZ_y rfl rfl 1 _ _ _ _ ty1 ?_
    exact nx _
theorem kx_keys_2 (K : kK) {p1 : List Int32} (hv : ws[1]? = some p1) {a : Nat} (x1 x2 x3 : Int32) {g M : Nat} (e1 : x1 = nI a) (e2 : x2 = nI (a + p1.length))
    (hK : ∀ u x4, kTY u → KWd σ0 B u ws nm ks → SCl scA σ u → kjY kPP (kQQ Y) (d + 6) 156 72 [some (.ref 59), some (.int x1), some (.int x2), some (.int x3), some (.int x4)] [] u K) :
    ∀ (f i : Nat) (x4 : Int32) (u : kS), i + f = ks.length → x4 = nI i → kTY u → KWd σ0 B u ws nm ks → SCl scA σ u → u.2.2.1 53 3 = some g → u.2.2.2.1 g = (21, M) → M ≤ 600000 → a + p1.length ≤ M → kjY kPP (kQQ Y) (d + 6) 156 43 [some (.ref 59), some (.int x1), some (.int x2), some (.int x3), some (.int x4)] [] u K := by
  intro f
  induction f with
  | zero =>
    intro i x4 u hi e4 tu wu su f3 kg hM ha
    obtain ⟨ri, NK, r1, r2, r3, r4, r5⟩ := wu.rows
    refine kjZ_y rfl rfl 4 _ _ _ _ tu ?_
    refine (And.intro (tu.k (by decide) rfl) (And.intro (fun c => ?_) (fun c => ?_)))
    · exact hK u x4 tu wu su
    · refine absurd (show u.1 59 13 ≤ x4 from ?_) c
      rw [r3, e4, nle (by omega) (by omega)]; omega
  | succ f ih =>
    intro i x4 u hi e4 tu wu su f3 kg hM ha
    obtain ⟨ri, NK, r1, r2, r3, r4, r5⟩ := wu.rows
    obtain ⟨b, hb, eb⟩ := wu.2.2.2.2.2.2.1
    have kb := ob_k tu (ANn_b b (ANb_n b hb)).1
    refine kjZ_y rfl rfl 4 _ _ _ _ tu ?_
    refine (And.intro (tu.k (by decide) rfl) (And.intro (fun c => ?_) (fun c => ?_)))
    · refine absurd (show u.1 59 13 ≤ x4 from c) ?_
      rw [r3, e4, nle (by omega) (by omega)]; omega
    refine kjZ_y rfl rfl 12 _ _ _ _ tu ?_
    refine (And.intro (tu.k (by decide) rfl) (And.intro (tu.k (by decide) rfl) (And.intro (tu.k (by decide) rfl) (Exists.intro _ (And.intro f3 (And.intro (tu.k (by decide) rfl) (Exists.intro _ (And.intro r1 (Or.inl (And.intro (kdk r2) (And.intro (kdv r2 (by rw [e4]; exact vp_in_nI (by omega) (by omega))) (And.intro (Nat.le_of_ble_eq_true rfl) (And.intro (Or.inl ⟨(Nat.le_of_ble_eq_true rfl), (tu.k (by decide) rfl)⟩) (And.intro (Nat.le_of_ble_eq_true rfl) (And.intro (Nat.le_of_ble_eq_true rfl) (kjY_mono tu (fun q_ u1 ty1 xu1 h_ => ?_) (k_fits tu wu.2.2.1.1 kg hM (Nat.le_add_right _ _) ha _ _ _ e1 e2)))))))))))))))))
    obtain ⟨rfl, z, rfl, q⟩ := h_
    intro _ _
    have nx : ∀ u, kTY u → KWd σ0 B u ws nm ks → SCl scA σ u → u.2.2.1 53 3 = some g → u.2.2.2.1 g = (21, M) → kjY kPP (kQQ Y) (d + 6) 156 70 [some (.ref 59), some (.int x1), some (.int x2), some (.int x3), some (.int x4)] [] u K := by
      intro u tu wu su f3 kg
      refine kjZ_y rfl rfl 2 _ _ _ _ tu ?_
      exact ih (i + 1) _ u (by omega) (by rw [e4]; exact nI_1 i) tu wu su f3 kg hM ha
    refine kjZ_y rfl rfl 1 _ _ _ _ ty1 ?_
    refine And.intro (fun c2 => ?_) (fun c2 => ?_)
    · exact nx u1 ty1 wu su f3 kg
    refine kjZ_y rfl rfl 10 _ _ _ _ ty1 ?_
    refine (And.intro (ty1.k (by decide) rfl) (And.intro (ty1.k (by decide) rfl) (Exists.intro _ (And.intro r1 (Or.inl (And.intro (kdk r2) (And.intro (kdv r2 (by rw [e4]; exact vp_in_nI (by omega) (by omega))) (And.intro (ty1.k (by decide) rfl) (And.intro (ty1.k (by decide) rfl) (Exists.intro _ (And.intro eb (And.intro (Nat.le_of_ble_eq_true rfl) (And.intro (Or.inl ⟨(Nat.le_of_ble_eq_true rfl), (ty1.k (by decide) rfl)⟩) (And.intro (Nat.le_of_ble_eq_true rfl) (And.intro (Nat.le_of_ble_eq_true rfl) (kjY_mono ty1 (fun q_ u2 ty2 xu2 h_ => ?_) (kx_copyWord ty1 wu hb _)))))))))))))))))
    obtain ⟨rfl, w2, s2⟩ := h_
    intro _ _
    have e3 : u2.2.2.1 53 3 = some g := by
      have k0 := wu.1.2.fld wu.1.1 (h := 53) (x := 3) (c := 3) (by decide) rfl (by decide) (by decide +kernel)
      have k2 := w2.1.2.fld w2.1.1 (h := 53) (x := 3) (c := 3) (by decide) rfl (by decide) (by decide +kernel)
      rw [k2.2.2, ← k0.2.2]; exact f3
    exact nx u2 ty2 w2 (su.tr s2) e3 (by rw [xu2.2.1 g (ty1.lr kg (by decide))]; exact kg)
theorem kx_keysAll (ty : kTY σ) (w : KWd σ0 B σ ws nm ks) (hr : RSD ks) {p1 : List Int32} (hv : ws[1]? = some p1) : kjY kPP (kQQ Y) (d + 6) 156 0 (mjL0 5 [.ref 59]) [] σ (cdP σ0 B σ ws nm ks none) := by
  refine kjZ_y rfl rfl 4 _ _ _ _ ty ?_
  refine (And.intro (ty.k (by decide) rfl) (And.intro (Nat.le_of_ble_eq_true rfl) (And.intro (Or.inl ⟨(Nat.le_of_ble_eq_true rfl), (ty.k (by decide) rfl)⟩) (And.intro (Nat.le_of_ble_eq_true rfl) (And.intro (Nat.le_of_ble_eq_true rfl) (kjY_mono ty (fun q_ u1 ty1 xu1 h_ => ?_) (kx_startOf ty w hv _ rfl)))))))
  obtain ⟨rfl, g, M, a, rfl, ⟨f3, kg, hM⟩, -, ha, -⟩ := h_
  intro _ _
  refine kjZ_y rfl rfl 6 _ _ _ _ ty1 ?_
  refine (And.intro (Nat.le_of_ble_eq_true rfl) (And.intro (ty1.k (by decide) rfl) (And.intro (Nat.le_of_ble_eq_true rfl) (And.intro (Or.inl ⟨(Nat.le_of_ble_eq_true rfl), (ty1.k (by decide) rfl)⟩) (And.intro (Nat.le_of_ble_eq_true rfl) (And.intro (Nat.le_of_ble_eq_true rfl) (kjY_mono ty1 (fun q_ u2 ty2 xu2 h_ => ?_) (kx_lengthOf ty1 w hv _ rfl))))))))
  obtain ⟨rfl, rfl⟩ := h_
  intro _ _
  refine kjZ_y rfl rfl 6 _ _ _ _ ty2 ?_
  refine (And.intro (Nat.le_of_ble_eq_true rfl) (And.intro (Nat.le_of_ble_eq_true rfl) (And.intro (Nat.le_of_ble_eq_true rfl) ?_)))
  have e2 : nI a + nI p1.length = nI (a + p1.length) := nI_add _ _
  refine kx_keys_1 (d := d) _ hv (nI a) (nI a + nI p1.length) ty2 w f3 kg hM ha rfl e2 (fun x3 x4 => ?_) ks.length 0 _ _ (Nat.zero_add _) rfl
  obtain ⟨b, hb, eb⟩ := w.2.2.2.2.2.2.1
  have kb := ob_k ty2 (ANn_b b (ANb_n b hb)).1
  refine kjZ_y rfl rfl 5 _ _ _ _ ty2 ?_
  refine (And.intro (ty2.k (by decide) rfl) (And.intro (ty2.k (by decide) rfl) (Exists.intro _ (And.intro eb (And.intro (Nat.le_of_ble_eq_true rfl) (And.intro (Or.inl ⟨(Nat.le_of_ble_eq_true rfl), (by assumption)⟩) (And.intro (Nat.le_of_ble_eq_true rfl) (And.intro (Nat.le_of_ble_eq_true rfl) (kjY_mono ty2 (fun q_ u3 ty3 xu3 h_ => ?_) (kx_rowHead ty2 w hb _))))))))))
  obtain ⟨rfl, w3, s3⟩ := h_
  intro _ _
  refine kjZ_y rfl rfl 2 _ _ _ _ ty3 ?_
  refine (And.intro (Nat.le_of_ble_eq_true rfl) ?_)
  have e3 : u3.2.2.1 53 3 = some g := by
    have k0 := w.1.2.fld w.1.1 (h := 53) (x := 3) (c := 3) (by decide) rfl (by decide) (by decide +kernel)
    have k2 := w3.1.2.fld w3.1.1 (h := 53) (x := 3) (c := 3) (by decide) rfl (by decide) (by decide +kernel)
    rw [k2.2.2, ← k0.2.2]; exact f3
  refine kx_keys_2 (σ := u2) (d := d) _ hv (nI a) (nI a + nI p1.length) x3 rfl e2 (fun u x4 tu wu su => ?_) ks.length 0 _ u3 (Nat.zero_add _) rfl ty3 w3 s3 e3 (by rw [xu3.2.1 g (ty2.lr kg (by decide))]; exact kg) hM ha
  refine kjZ_y rfl rfl 1 _ _ _ _ tu ?_
  refine And.intro rfl (And.intro rfl ?_)
  exact cd_no PRE.rf wu hr su.h rfl
end KKEYSC
