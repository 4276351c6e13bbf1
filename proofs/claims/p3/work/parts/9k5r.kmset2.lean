/-! MSET and MSETNX, whole. -/
section KMSET2
variable {Y : Nat → MethodName × ByteArray} {d : Nat} {σ0 σ u : kS} {B ws nm nm' : List (List Int32)} {ks : List KC}
theorem kx_mset (ty : kTY σ) (w : KWd σ0 B σ ws nm ks) (hr : RSD ks) (hB : BOK B ws) {j : Nat} (hj : CMD σ j) {m : Nat} (hm : 1 + 2 * (m + 1) = ws.length) (hal : ∀ w ∈ ws, w.length ≤ 16384) (hX : xtA (skA ks) + sl ws + 16384 ≤ 98304) (hN : ks.length + ws.length ≤ 2600) (nx : Bool) (x1 : Int32) (e1 : x1 = if nx = true then 1 else 0) {o : Option (List AK)} (ho1 : fuB (σ.1 59 17) ks j → o = none) (ho2 : ¬ fuB (σ.1 59 17) ks j → nx = true → mxA (skA ks) (ws.drop 1) → o = none) (ho3 : ¬ fuB (σ.1 59 17) ks j → ¬ (nx = true ∧ mxA (skA ks) (ws.drop 1)) → o = some (msA (skA ks) (ws.drop 1))) :
    kjY kPP (kQQ Y) (d + 8) 176 0 (mjL0 6 [.ref 67, .int x1]) [] σ (cdP σ0 B σ ws nm ks o) := by
  refine kjZ_y rfl rfl 3 _ _ _ _ ty ?_
  refine (And.intro (ty.k (by decide) rfl) (And.intro (Nat.le_of_ble_eq_true rfl) (And.intro (Or.inl ⟨(Nat.le_of_ble_eq_true rfl), (ty.k (by decide) rfl)⟩) (And.intro (Nat.le_of_ble_eq_true rfl) (And.intro (Nat.le_of_ble_eq_true rfl) (kjY_mono ty (fun q_ u1 ty1 xu1 h_ => ?_) (kx_isFull ty w hj)))))))
  obtain ⟨s1, w1, q⟩ := h_
  intro _ _
  rcases q with ⟨rfl, q⟩ | ⟨rfl, q, rfl⟩
  · refine kjZ_y rfl rfl 1 _ _ _ _ ty1 ?_
    refine And.intro (fun c => ?_) (fun c => ?_)
    · exact absurd (show (1 : Int32) = 0 from c) (by decide)
    refine kjZ_y rfl rfl 1 _ _ _ _ ty1 ?_
    refine And.intro rfl (And.intro rfl ?_)
    exact cd_no PRE.rf w1 hr s1.h (ho1 ((fuB_iff w).mp q))
  rw [fuB_iff w] at q
  have hsl : sl (ws.drop 1) ≤ sl ws := by
    cases ws with
    | nil => exact Nat.le_refl _
    | cons z r => show sl r ≤ z.length + sl r; omega
  -- the answer
  have fin : ∀ (z : kS) (x2 x3 : Int32) (l4 l5 : Option Value) (nm9 : List (List Int32)) (ks9 : List KC), kTY z → KWd σ0 B z ws nm9 ks9 → (∀ z2, KWd σ0 B z2 ws nm9 ks9 → SCl scA z z2 → cdP σ0 B u1 ws nm ks o none z2) → kjY kPP (kQQ Y) (d + 8) 176 75 [some (.ref 67), some (.int x1), some (.int x2), some (.int x3), l4, l5] [] z (cdP σ0 B u1 ws nm ks o) := by
    intro z x2 x3 l4 l5 nm9 ks9 tz wz hz
    obtain ⟨b, hb, eb⟩ := wz.2.2.2.2.2.2.1
    have kb := ob_k tz (ANn_b b (ANb_n b hb)).1
    refine kjZ_y rfl rfl 2 _ _ _ _ tz ?_
    refine And.intro (fun c => ?_) (fun c => ?_)
    · refine kjZ_y rfl rfl 3 _ _ _ _ tz ?_
      refine (And.intro (tz.k (by decide) rfl) (And.intro (Nat.le_of_ble_eq_true rfl) (And.intro (Or.inl ⟨(Nat.le_of_ble_eq_true rfl), (tz.k (by decide) rfl)⟩) (And.intro (Nat.le_of_ble_eq_true rfl) (And.intro (Nat.le_of_ble_eq_true rfl) (kjY_mono tz (fun q_ u5 ty5 xu5 h_ => ?_) (kx_accept tz wz)))))))
      obtain ⟨rfl, w5, s5⟩ := h_
      intro _ _
      refine kjZ_y rfl rfl 1 _ _ _ _ ty5 ?_
      refine And.intro rfl (And.intro rfl ?_)
      exact hz u5 w5 s5
    have go : ∀ n : Int64, kjY kPP (kQQ Y) (d + 8) 176 85 [some (.ref 67), some (.int x1), some (.int x2), some (.int x3), l4, l5] [.long n, .ref b] z (cdP σ0 B u1 ws nm ks o) := by
      intro n
      refine kjZ_y rfl rfl 1 _ _ _ _ tz ?_
      refine (And.intro (Nat.le_of_ble_eq_true rfl) (And.intro (Or.inl ⟨(Nat.le_of_ble_eq_true rfl), (by assumption)⟩) (And.intro (Nat.le_of_ble_eq_true rfl) (And.intro (Nat.le_of_ble_eq_true rfl) (kjY_mono tz (fun q_ u5 ty5 xu5 h_ => ?_) (kx_number tz wz hb _))))))
      obtain ⟨rfl, w5, s5⟩ := h_
      intro _ _
      refine kjZ_y rfl rfl 2 _ _ _ _ ty5 ?_
      refine And.intro rfl (And.intro rfl ?_)
      exact hz u5 w5 s5
    refine kjZ_y rfl rfl 5 _ _ _ _ tz ?_
    refine (And.intro (tz.k (by decide) rfl) (And.intro (tz.k (by decide) rfl) (Exists.intro _ (And.intro eb (And.intro (fun c2 => ?_) (fun c2 => ?_))))))
    · refine kjZ_y rfl rfl 1 _ _ _ _ tz ?_
      exact go _
    · refine kjZ_y rfl rfl 2 _ _ _ _ tz ?_
      exact go _
  -- the pairs come
  have puts : ∀ (z : kS) (nm9 : List (List Int32)) (x3 : Int32) (l4 l5 : Option Value), kTY z → PRE nm nm9 → KWd σ0 B z ws nm9 ks → SCl scA u1 z → ¬ (nx = true ∧ mxA (skA ks) (ws.drop 1)) → kjY kPP (kQQ Y) (d + 8) 176 34 [some (.ref 67), some (.int x1), some (.int 1), some (.int (nI 1)), l4, l5] [] z (cdP σ0 B u1 ws nm ks o) := by
    intro z nm9 x3 l4 l5 tz pz wz sz hnx
    refine k_mset_l (d := d + 2) (σ := u1) (nm := nm) (X := xtA (skA ks) + sl ws) (N := 2600) _ hB hal hX (Nat.le_refl _) x1 1 rfl ?_ (m + 1) 1 _ l4 l5 nm9 ks z (by omega) rfl tz pz wz hr sz.g rfl (Or.inr (by omega)) (by omega) (by omega)
    intro u5 nm5 ks5 y3 y4 y5 t5 p5 w5 r5 s5 e5 c5
    exact fin u5 1 y3 y4 y5 nm5 ks5 t5 w5 (fun z2 w6 s6 => cd_ok p5 w6 r5 e5 ((s6 (59, 18) (by decide)).1.trans c5) (s5.tr s6.g) (ho3 q hnx))
  refine kjZ_y rfl rfl 1 _ _ _ _ ty1 ?_
  refine And.intro (fun c => ?_) (fun c => ?_)
  rotate_left
  · exact absurd rfl c
  refine kjZ_y rfl rfl 4 _ _ _ _ ty1 ?_
  refine (And.intro (Nat.le_of_ble_eq_true rfl) (And.intro (Nat.le_of_ble_eq_true rfl) ?_))
  cases nx with
  | false =>
    have e1 : x1 = 0 := e1
    obtain ⟨-, -, -, -, ⟨h4, h1024⟩, -⟩ := w.2.2.2.1
    refine kjZ_y rfl rfl 5 _ _ _ _ ty1 ?_
    refine (And.intro (ty1.k (by decide) rfl) (And.intro (ty1.k (by decide) rfl) (And.intro (fun c => ?_) (fun c => ?_))))
    · refine absurd (show u1.1 53 4 ≤ nI 1 from c) ?_
      rw [h4, nle (by omega) (by omega)]; omega
    refine kjZ_y rfl rfl 2 _ _ _ _ ty1 ?_
    refine And.intro (fun c2 => ?_) (fun c2 => ?_)
    rotate_left
    · exact absurd e1 c2
    refine kjZ_y rfl rfl 2 _ _ _ _ ty1 ?_
    refine (And.intro (Nat.le_of_ble_eq_true rfl) ?_)
    exact puts u1 nm (nI 1) none none ty1 PRE.rf w SCl.rf (fun z => by cases z.1)
  | true =>
    have e1 : x1 = 1 := e1
    refine k_msnx_l (d := d + 2) (σ := u1) (nm := nm) (ks := ks) _ hB x1 e1 ?_ (m + 1) 1 _ _ none none nm u1 (by omega) rfl ty1 PRE.rf w SCl.rf (Or.inl ⟨rfl, Iff.rfl⟩)
    intro u2 nm2 x2 x3 l4 l5 t2 p2 w2 s2 hx
    rcases hx with ⟨rfl, hx⟩ | ⟨rfl, hx⟩
    · refine kjZ_y rfl rfl 2 _ _ _ _ t2 ?_
      refine (And.intro (Nat.le_of_ble_eq_true rfl) ?_)
      exact puts u2 nm2 x3 l4 l5 t2 p2 w2 s2 (fun z => hx z.2)
    · obtain ⟨-, -, -, -, ⟨h4, h1024⟩, -⟩ := w2.2.2.2.1
      refine kjZ_y rfl rfl 2 _ _ _ _ t2 ?_
      refine (And.intro (Nat.le_of_ble_eq_true rfl) ?_)
      refine kjZ_y rfl rfl 5 _ _ _ _ t2 ?_
      refine (And.intro (t2.k (by decide) rfl) (And.intro (t2.k (by decide) rfl) (And.intro (fun c => ?_) (fun c => ?_))))
      · refine absurd (show u2.1 53 4 ≤ nI 1 from c) ?_
        rw [h4, nle (by omega) (by omega)]; omega
      refine kjZ_y rfl rfl 2 _ _ _ _ t2 ?_
      refine And.intro (fun c2 => ?_) (fun c2 => ?_)
      rotate_left
      · exact absurd rfl c2
      exact fin u2 0 (nI 1) l4 l5 nm2 ks t2 w2 (fun z2 w6 s6 => cd_no p2 w6 hr (s2.tr s6).h (ho2 q rfl hx))
end KMSET2
