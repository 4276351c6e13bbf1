/-! BITCOUNT. -/
section KCBIT
variable {Y : Nat → MethodName × ByteArray} {d : Nat} {σ0 σ u : kS} {B ws nm nm' : List (List Int32)} {ks : List KC}
theorem k_bitC (ty : kTY σ) (x : Int32) : kjY kPP (kQQ Y) d 314 0 (mjL0 1 [.int x]) [] σ (fun r u => u = σ ∧ ∃ z : Int32, r = some (.int z)) := by
  refine kjZ_y rfl rfl 4 _ _ _ _ ty ?_
  refine kjZ_y rfl rfl 1 _ _ _ _ ty ?_
  refine kjZ_y rfl rfl 4 _ _ _ _ ty ?_
  refine (And.intro (Nat.le_of_ble_eq_true rfl) ?_)
  refine kjZ_y rfl rfl 1 _ _ _ _ ty ?_
  refine kjZ_y rfl rfl 4 _ _ _ _ ty ?_
  refine kjZ_y rfl rfl 1 _ _ _ _ ty ?_
  refine kjZ_y rfl rfl 6 _ _ _ _ ty ?_
  refine (And.intro (Nat.le_of_ble_eq_true rfl) ?_)
  refine kjZ_y rfl rfl 2 _ _ _ _ ty ?_
  refine kjZ_y rfl rfl 1 _ _ _ _ ty ?_
  refine kjZ_y rfl rfl 6 _ _ _ _ ty ?_
  refine (And.intro (Nat.le_of_ble_eq_true rfl) ?_)
  refine kjZ_y rfl rfl 6 _ _ _ _ ty ?_
  refine (And.intro (Nat.le_of_ble_eq_true rfl) ?_)
  refine kjZ_y rfl rfl 6 _ _ _ _ ty ?_
  refine (And.intro (Nat.le_of_ble_eq_true rfl) (And.intro rfl (And.intro (Or.inl rfl) ?_)))
  exact ⟨rfl, _, rfl⟩
theorem k_cbit_l (K : kK) {P Q : List KC} {y : KC} (hs : y.2.2.2.2.2.2.1 = 0) {hi : Nat} (hh : hi < 2 ^ 29) (tu : kTY u) (wu : KWd σ0 B u ws nm (P ++ y :: Q)) (e12 : u.1 53 12 = nI hi)
    (hK : ∀ x2 x3, kjY kPP (kQQ Y) (d + 1) 186 66 [some (.ref 67), some (.ref y.1), some (.int x2), some (.int x3)] [] u K) :
    ∀ (f i : Nat) (x2 x3 : Int32), i + f = hi → x3 = nI i →
    kjY kPP (kQQ Y) (d + 1) 186 49 [some (.ref 67), some (.ref y.1), some (.int x2), some (.int x3)] [] u K := by
  have kv := (wu.tz hs).2.2
  intro f
  induction f with
  | zero =>
    intro i x2 x3 hi' e3
    refine kjZ_y rfl rfl 5 _ _ _ _ tu ?_
    refine (And.intro (tu.k (by decide) rfl) (And.intro (tu.k (by decide) rfl) (And.intro (fun c => ?_) (fun c => ?_))))
    rotate_left
    · refine absurd (show u.1 53 12 ≤ x3 from ?_) c
      rw [e12, e3, nle (by omega) (by omega)]; omega
    exact hK x2 x3
  | succ f ih =>
    intro i x2 x3 hi' e3
    refine kjZ_y rfl rfl 5 _ _ _ _ tu ?_
    refine (And.intro (tu.k (by decide) rfl) (And.intro (tu.k (by decide) rfl) (And.intro (fun c => ?_) (fun c => ?_))))
    · refine absurd (show u.1 53 12 ≤ x3 from c) ?_
      rw [e12, e3, nle (by omega) (by omega)]; omega
    refine kjZ_y rfl rfl 5 _ _ _ _ tu ?_
    refine (And.intro (Nat.le_of_ble_eq_true rfl) (And.intro (Or.inl ⟨(Nat.le_of_ble_eq_true rfl), (tu.k (by decide) rfl)⟩) (And.intro (Nat.le_of_ble_eq_true rfl) (And.intro (Nat.le_of_ble_eq_true rfl) (kjY_mono tu (fun q_ u1 ty1 xu1 h_ => ?_) (kx_byteAtS tu wu hs _))))))
    obtain ⟨rfl, z, rfl⟩ := h_
    intro _ _
    refine kjZ_y rfl rfl 3 _ _ _ _ ty1 ?_
    refine (And.intro (Nat.le_of_ble_eq_true rfl) (And.intro (Nat.le_of_ble_eq_true rfl) (And.intro (Nat.le_of_ble_eq_true rfl) (kjY_mono ty1 (fun q_ u2 ty2 xu2 h_ => ?_) (k_bitC ty1 _)))))
    obtain ⟨rfl, z2, rfl⟩ := h_
    intro _ _
    refine kjZ_y rfl rfl 4 _ _ _ _ ty2 ?_
    refine (And.intro (Nat.le_of_ble_eq_true rfl) ?_)
    exact ih (i + 1) _ _ (by omega) (by rw [e3]; exact nI_1 i)
theorem kx_bitCount (ty : kTY σ) (w : KWd σ0 B σ ws nm ks) (hr : RSD ks) (hB : BOK B ws) {j : Nat} (hj : CMD σ j) {v : List Int32} (hv : ws[1]? = some v) (h3 : 2 < ws.length → 3 < ws.length) :
    kjY kPP (kQQ Y) (d + 7) 186 0 (mjL0 4 [.ref 67]) [] σ (cdP σ0 B σ ws nm ks none) := by
  have hlen := (List.getElem?_eq_some_iff.mp hv).1
  obtain ⟨-, -, -, -, ⟨h4, h1024⟩, -⟩ := w.2.2.2.1
  have s18 : ∀ z, kTY z → KWd σ0 B z ws nm ks → SCl scC σ z → kjY kPP (kQQ Y) (d + 7) 186 18 [some (.ref 67), none, none, none] [] z (cdP σ0 B σ ws nm ks none) := by
    intro z tz wz sz
    have hH := sz.sub scHC
    refine kjZ_y rfl rfl 6 _ _ _ _ tz ?_
    refine (And.intro (tz.k (by decide) rfl) (And.intro (Nat.le_of_ble_eq_true rfl) (And.intro (Or.inl ⟨(Nat.le_of_ble_eq_true rfl), (tz.k (by decide) rfl)⟩) (And.intro (Nat.le_of_ble_eq_true rfl) (And.intro (Nat.le_of_ble_eq_true rfl) (kjY_mono tz (fun q_ u1 ty1 xu1 h_ => ?_) (kx_refuses tz wz hB (hj.sc hH) (a := 1) (b := 1) (by omega) (by omega) (s := 0) (by decide) _ _ _ rfl rfl rfl)))))))
    obtain ⟨nm1, p1, w1, s1, q⟩ := h_
    intro _ _
    rcases q with ⟨rfl, q⟩ | ⟨rfl, q⟩
    · refine kjZ_y rfl rfl 1 _ _ _ _ ty1 ?_
      refine And.intro (fun c => ?_) (fun c => ?_)
      · exact absurd (show (1 : Int32) = 0 from c) (by decide)
      refine kjZ_y rfl rfl 1 _ _ _ _ ty1 ?_
      refine And.intro rfl (And.intro rfl ?_)
      exact cd_no p1 w1 hr (hH.tr s1.h) rfl
    refine kjZ_y rfl rfl 1 _ _ _ _ ty1 ?_
    refine And.intro (fun c => ?_) (fun c => ?_)
    rotate_left
    · exact absurd rfl c
    have hsof : ∀ P (y : KC) Q, ks = P ++ y :: Q → kyI (skA ks) v = some P.length → y.2.2.2.2.2.2.1 = 0 := by
      intro P y Q e0 e1
      rw [rf1 wz hv] at q
      subst e0
      exact so_1 (s := 0) e1 (fun z => q (Or.inr z))
    refine kjZ_y rfl rfl 6 _ _ _ _ ty1 ?_
    refine (And.intro (ty1.k (by decide) rfl) (And.intro (ty1.k (by decide) rfl) (And.intro (Nat.le_of_ble_eq_true rfl) (And.intro (Or.inl ⟨(Nat.le_of_ble_eq_true rfl), (ty1.k (by decide) rfl)⟩) (And.intro (Nat.le_of_ble_eq_true rfl) (And.intro (Nat.le_of_ble_eq_true rfl) (kjY_mono ty1 (fun q_ u2 ty2 xu2 h_ => ?_) (kx_id ty1 w1 hB hv _ rfl))))))))
    obtain ⟨k, nm2, rfl, p2, p3, w2, s2⟩ := h_
    intro _ _
    refine kjZ_y rfl rfl 1 _ _ _ _ ty2 ?_
    refine (And.intro (Nat.le_of_ble_eq_true rfl) (And.intro (Or.inl ⟨(Nat.le_of_ble_eq_true rfl), (ty2.k (by decide) rfl)⟩) (And.intro (Nat.le_of_ble_eq_true rfl) (And.intro (Nat.le_of_ble_eq_true rfl) (kjY_mono ty2 (fun q_ u3 ty3 xu3 h_ => ?_) (kx_find ty2 w2 p2 _ rfl))))))
    obtain ⟨rfl, q3⟩ := h_
    intro _ _
    have sH := hH.tr (s1.tr s2).h
    rcases q3 with ⟨rfl, q3⟩ | ⟨P, y, Q, rfl, f0, f1, f2⟩
    · refine kjZ_y rfl rfl 8 _ _ _ _ ty3 ?_
      refine (And.intro (Nat.le_of_ble_eq_true rfl) (And.intro (ty3.k (by decide) rfl) (And.intro (Nat.le_of_ble_eq_true rfl) (And.intro (Or.inl ⟨(Nat.le_of_ble_eq_true rfl), (ty3.k (by decide) rfl)⟩) (And.intro (Nat.le_of_ble_eq_true rfl) (And.intro (Nat.le_of_ble_eq_true rfl) (kjY_mono ty3 (fun q_ u4 ty4 xu4 h_ => ?_) (kx_cutSpan ty3 w2 (n := 0) (by decide) _ rfl))))))))
      obtain ⟨rfl, w4, s4, lo, hi, t1, t2, t3, t4, -⟩ := h_
      intro _ _
      obtain ⟨b, hb, eb⟩ := w4.2.2.2.2.2.2.1
      have kb := ob_k ty4 (ANn_b b (ANb_n b hb)).1
      refine kjZ_y rfl rfl 6 _ _ _ _ ty4 ?_
      refine (And.intro (Nat.le_of_ble_eq_true rfl) (And.intro (ty4.k (by decide) rfl) (And.intro (ty4.k (by decide) rfl) (And.intro (Nat.le_of_ble_eq_true rfl) ?_))))
      refine kjZ_y rfl rfl 5 _ _ _ _ ty4 ?_
      refine (And.intro (ty4.k (by decide) rfl) (And.intro (ty4.k (by decide) rfl) (And.intro (fun c => ?_) (fun c => ?_))))
      rotate_left
      · refine absurd (show u4.1 53 12 ≤ u4.1 53 11 from ?_) c
        rw [t1, t2, nle (by omega) (by omega)]; omega
      refine kjZ_y rfl rfl 6 _ _ _ _ ty4 ?_
      refine (And.intro (ty4.k (by decide) rfl) (And.intro (ty4.k (by decide) rfl) (Exists.intro _ (And.intro eb (And.intro (Nat.le_of_ble_eq_true rfl) (And.intro (Or.inl ⟨(Nat.le_of_ble_eq_true rfl), (by assumption)⟩) (And.intro (Nat.le_of_ble_eq_true rfl) (And.intro (Nat.le_of_ble_eq_true rfl) (kjY_mono ty4 (fun q_ u5 ty5 xu5 h_ => ?_) (kx_number ty4 w4 hb _))))))))))
      obtain ⟨rfl, w5, s5⟩ := h_
      intro _ _
      refine kjZ_y rfl rfl 1 _ _ _ _ ty5 ?_
      refine And.intro rfl (And.intro rfl ?_)
      exact cd_no (p1.tr p3) w5 hr ((sH.tr (s4.sub scHD)).tr s5.h) rfl
    · have hs0 := hsof P y Q f0 f2
      subst f0
      obtain ⟨z1, z2, kv⟩ := w2.tz hs0
      refine kjZ_y rfl rfl 8 _ _ _ _ ty3 ?_
      refine (And.intro (Nat.le_of_ble_eq_true rfl) (And.intro (ty3.k (by decide) rfl) (And.intro (by assumption) (And.intro (Nat.le_of_ble_eq_true rfl) (And.intro (Or.inl ⟨(Nat.le_of_ble_eq_true rfl), (ty3.k (by decide) rfl)⟩) (And.intro (Nat.le_of_ble_eq_true rfl) (And.intro (Nat.le_of_ble_eq_true rfl) (kjY_mono ty3 (fun q_ u4 ty4 xu4 h_ => ?_) (kx_cutSpan ty3 w2 (n := y.2.2.2.2.2.2.2.2.2.1.length) (by omega) _ z1)))))))))
      obtain ⟨rfl, w4, s4, lo, hi, t1, t2, t3, t4, -⟩ := h_
      intro _ _
      have kv4 := (w4.tz hs0).2.2
      obtain ⟨b, hb, eb⟩ := w4.2.2.2.2.2.2.1
      have kb := ob_k ty4 (ANn_b b (ANb_n b hb)).1
      refine kjZ_y rfl rfl 6 _ _ _ _ ty4 ?_
      refine (And.intro (Nat.le_of_ble_eq_true rfl) (And.intro (ty4.k (by decide) rfl) (And.intro (ty4.k (by decide) rfl) (And.intro (Nat.le_of_ble_eq_true rfl) ?_))))
      refine k_cbit_l (d := d + 6) _ hs0 (hi := hi) (by omega) ty4 w4 t2 (fun x2 x3 => ?_) (hi - lo) lo _ _ (by omega) t1
      refine kjZ_y rfl rfl 6 _ _ _ _ ty4 ?_
      refine (And.intro (ty4.k (by decide) rfl) (And.intro (ty4.k (by decide) rfl) (Exists.intro _ (And.intro eb (And.intro (Nat.le_of_ble_eq_true rfl) (And.intro (Or.inl ⟨(Nat.le_of_ble_eq_true rfl), (by assumption)⟩) (And.intro (Nat.le_of_ble_eq_true rfl) (And.intro (Nat.le_of_ble_eq_true rfl) (kjY_mono ty4 (fun q_ u5 ty5 xu5 h_ => ?_) (kx_number ty4 w4 hb _))))))))))
      obtain ⟨rfl, w5, s5⟩ := h_
      intro _ _
      refine kjZ_y rfl rfl 1 _ _ _ _ ty5 ?_
      refine And.intro rfl (And.intro rfl ?_)
      exact cd_no (p1.tr p3) w5 hr ((sH.tr (s4.sub scHD)).tr s5.h) rfl
  refine kjZ_y rfl rfl 8 _ _ _ _ ty ?_
  refine (And.intro (ty.k (by decide) rfl) (And.intro (ty.k (by decide) rfl) (And.intro rfl (fun ty' => (And.intro (ty'.k (by decide) rfl) (And.intro (ty'.k (by decide) rfl) (And.intro rfl (fun ty'' => ?_))))))))
  have wz0 := (w.pl ty (h := 53) (x := 10) (v := Int64.ofNat 0) (by decide)).pl ty' (h := 53) (x := 9) (v := Int64.ofInt (-1)) (by decide)
  have go : ∀ z, kTY z → z = (σ.1, mjLu (mjLu σ.2.1 53 10 (Int64.ofNat 0)) 53 9 (Int64.ofInt (-1)), σ.2.2) → kjY kPP (kQQ Y) (d + 7) 186 8 [some (.ref 67), none, none, none] [] z (cdP σ0 B σ ws nm ks none) := by
    intro z tz ez
    have wz : KWd σ0 B z ws nm ks := by rw [ez]; exact wz0
    have sz : SCl scC σ z := by
      rw [ez]; exact (SCl.l (h := 53) (x := 10) (v := Int64.ofNat 0) (by decide +kernel)).tr (SCl.l (h := 53) (x := 9) (v := Int64.ofInt (-1)) (by decide +kernel))
    have h4z : z.1 53 4 = nI ws.length := by rw [ez]; exact h4
    refine kjZ_y rfl rfl 5 _ _ _ _ tz ?_
    refine (And.intro (tz.k (by decide) rfl) (And.intro (tz.k (by decide) rfl) (And.intro (fun c => ?_) (fun c => ?_))))
    · exact s18 z tz wz sz
    have c : ¬ z.1 53 4 ≤ nI 2 := c
    rw [h4z, nle (by omega) (by decide)] at c
    refine kjZ_y rfl rfl 4 _ _ _ _ tz ?_
    refine (And.intro (tz.k (by decide) rfl) (And.intro (Nat.le_of_ble_eq_true rfl) (And.intro (Or.inl ⟨(Nat.le_of_ble_eq_true rfl), (tz.k (by decide) rfl)⟩) (And.intro (Nat.le_of_ble_eq_true rfl) (And.intro (Nat.le_of_ble_eq_true rfl) (kjY_mono tz (fun q_ u1 ty1 xu1 h_ => ?_) (kx_lacksSpan tz wz (i := 2) (List.getElem?_eq_getElem (by omega)) (List.getElem?_eq_getElem (h3 (by omega))) _ rfl)))))))
    obtain ⟨w1, s1, q⟩ := h_
    intro _ _
    rcases q with ⟨a, b, q1, rfl, -, -⟩ | ⟨q1, rfl⟩
    · refine kjZ_y rfl rfl 1 _ _ _ _ ty1 ?_
      refine And.intro (fun c2 => ?_) (fun c2 => ?_)
      · exact absurd rfl c2
      exact s18 u1 ty1 w1 (sz.tr s1)
    · refine kjZ_y rfl rfl 1 _ _ _ _ ty1 ?_
      refine And.intro (fun c2 => ?_) (fun c2 => ?_)
      rotate_left
      · exact absurd (show ¬ (1 : Int32) = 0 by decide) c2
      refine kjZ_y rfl rfl 1 _ _ _ _ ty1 ?_
      refine And.intro rfl (And.intro rfl ?_)
      exact cd_no PRE.rf w1 hr ((sz.tr s1).sub scHC) rfl
  exact go _ ty'' rfl
end KCBIT
