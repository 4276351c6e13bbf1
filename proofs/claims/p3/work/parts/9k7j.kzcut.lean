/-! ZREMRANGEBYRANK, ZREMRANGEBYSCORE. -/
section KZCUT
variable {Y : Nat → MethodName × ByteArray} {d : Nat} {σ0 σ u : kS} {B ws nm nm' : List (List Int32)} {ks : List KC}
theorem zcF_no {A : List AK} {w : List Int32} (h : kyI A w = none) (i1 : Nat) (i j : Int64) (no : Int32) (lo hi : Int64) : zcF A w i1 i j no lo hi = none := by unfold zcF; rw [h]
theorem zcF_at {P Q : List KC} {y : KC} {v : List Int32} (f2 : kyI (skA (P ++ y :: Q)) v = some P.length) {i1 : Nat} (h89 : ¬ i1 = 89) (i j : Int64) (no : Int32) (lo hi : Int64) {p q : Nat} (hq : q ≤ y.2.2.2.2.2.2.2.2.2.2.length) (hT : ∀ n z, y.2.2.2.2.2.2.2.2.2.2[n]? = some z → (zcT i1 (strF i j y.2.2.2.2.2.2.2.2.2.2.length).1 (strF i j y.2.2.2.2.2.2.2.2.2.2.length).2 no lo hi n z = true ↔ (p ≤ n ∧ n < q))) : zcF (skA (P ++ y :: Q)) v i1 i j no lo hi = if q ≤ p then none else some (stlA (skA (P ++ y :: Q)) P.length (fun es => cutL es p (q - p))) := by
  have hm := mnA_k f2
  obtain ⟨z1, z2⟩ := zc_cut (zcT i1 (strF i j y.2.2.2.2.2.2.2.2.2.2.length).1 (strF i j y.2.2.2.2.2.2.2.2.2.2.length).2 no lo hi) y.2.2.2.2.2.2.2.2.2.2 0 p q hq (fun n z hz => by rw [Nat.zero_add]; exact hT n z hz)
  unfold zcF; rw [f2]
  show (match (skA (P ++ y :: Q))[P.length]? with | none => none | some a => _) = _
  rw [skA_at, hm]
  show (if i1 = 89 ∨ zcN _ 0 y.2.2.2.2.2.2.2.2.2.2 = 0 then none else some (stlA _ _ (zcE _ 0))) = _
  rw [z2]
  by_cases c : q ≤ p
  · rw [if_pos c, if_pos (Or.inr (by omega))]
  · rw [if_neg c, if_neg (fun z => z.elim h89 (fun z => c (by omega)))]
    unfold stlA
    rw [skA_at]
    show some (if zcE _ 0 y.2.2.2.2.2.2.2.2.2.2 = [] then _ else upA _ _ (esF (zcE _ 0))) = some (if cutL y.2.2.2.2.2.2.2.2.2.2 p (q - p) = [] then _ else upA _ _ (esF (fun es => cutL es p (q - p))))
    rw [z1]
    have e2 : ∀ f g : AK → AK, f y.2.2.2.2.2 = g y.2.2.2.2.2 → upA (skA (P ++ y :: Q)) P.length f = upA (skA (P ++ y :: Q)) P.length g := by
      intro f g h
      rw [skA_app, skA_cons, ← skA_len P, upA_at, upA_at, h]
    rw [e2 (esF (zcE _ 0)) (esF (fun es => cutL es p (q - p)))]
    show (_, _, _, _, _, zcE _ 0 y.2.2.2.2.2.2.2.2.2.2) = (_, _, _, _, _, cutL _ p (q - p))
    rw [z1]
theorem kx_zremrank (ty : kTY σ) (w : KWd σ0 B σ ws nm ks) (hr : RSD ks) (hB : BOK B ws) {j : Nat} (hj : CMD σ j) {v a2 a3 : List Int32} (hv : ws[1]? = some v) (h2 : ws[2]? = some a2) (h3 : ws[3]? = some a3) (hS : ∀ x ∈ ks, x.2.2.2.2.2.2.1 = 4 → ZP x.2.2.2.2.2.2.2.2.2.2) {o : Option (List AK)} (ho1 : twF a2 a3 = none → o = none) (ho2 : rfZ (σ.1 59 17) ks j v 4 → o = none) (ho3 : ∀ q, twF a2 a3 = some q → ¬ rfZ (σ.1 59 17) ks j v 4 → o = zcF (skA ks) v 90 q.1 q.2 0 0 0) :
    kjY kPP (kQQ Y) (d + 7) 255 0 (mjL0 3 [.ref 75]) [] σ (cdP σ0 B σ ws nm ks o) := by
  have hlen := (List.getElem?_eq_some_iff.mp hv).1
  refine kjZ_y rfl rfl 4 _ _ _ _ ty ?_
  refine (And.intro (ty.k (by decide) rfl) (And.intro (Nat.le_of_ble_eq_true rfl) (And.intro (Or.inl ⟨(Nat.le_of_ble_eq_true rfl), (ty.k (by decide) rfl)⟩) (And.intro (Nat.le_of_ble_eq_true rfl) (And.intro (Nat.le_of_ble_eq_true rfl) (kjY_mono ty (fun q_ u0 ty0 xu0 h_ => ?_) (kx_lacksSpan ty w h2 h3 _ rfl)))))))
  obtain ⟨w0, s0, q⟩ := h_
  intro _ _
  have hH := s0.sub scHC
  rcases q with ⟨a, b, q1, rfl, e10, e9⟩ | ⟨q1, rfl⟩
  rotate_left
  · refine kjZ_y rfl rfl 1 _ _ _ _ ty0 ?_
    refine And.intro (fun c => ?_) (fun c => ?_)
    rotate_left
    · exact absurd (show ¬ (1 : Int32) = 0 by decide) c
    refine kjZ_y rfl rfl 1 _ _ _ _ ty0 ?_
    refine And.intro rfl (And.intro rfl ?_)
    exact cd_no PRE.rf w0 hr hH (ho1 q1)
  refine kjZ_y rfl rfl 1 _ _ _ _ ty0 ?_
  refine And.intro (fun c => ?_) (fun c => ?_)
  · exact absurd rfl c
  refine kjZ_y rfl rfl 6 _ _ _ _ ty0 ?_
  refine (And.intro (ty0.k (by decide) rfl) (And.intro (Nat.le_of_ble_eq_true rfl) (And.intro (Or.inl ⟨(Nat.le_of_ble_eq_true rfl), (ty0.k (by decide) rfl)⟩) (And.intro (Nat.le_of_ble_eq_true rfl) (And.intro (Nat.le_of_ble_eq_true rfl) (kjY_mono ty0 (fun q_ u1 ty1 xu1 h_ => ?_) (kx_refuses ty0 w0 hB (hj.sc hH) (a := 1) (b := 1) (by omega) (by omega) (s := 4) (by decide) _ _ _ rfl rfl rfl)))))))
  obtain ⟨nm1, p1, w1, s1, q⟩ := h_
  intro _ _
  rw [rf1 w0 hv, (hH (59, 17) (by decide)).1] at q
  rcases q with ⟨rfl, q⟩ | ⟨rfl, q⟩
  · refine kjZ_y rfl rfl 1 _ _ _ _ ty1 ?_
    refine And.intro (fun c => ?_) (fun c => ?_)
    · exact absurd (show (1 : Int32) = 0 from c) (by decide)
    refine kjZ_y rfl rfl 1 _ _ _ _ ty1 ?_
    refine And.intro rfl (And.intro rfl ?_)
    exact cd_no p1 w1 hr (hH.tr s1.h) (ho2 q)
  have ho := ho3 _ q1 q
  have ho : o = zcF (skA ks) v 90 a b 0 0 0 := ho
  have hso := fun z => q (Or.inr z)
  refine kjZ_y rfl rfl 1 _ _ _ _ ty1 ?_
  refine And.intro (fun c => ?_) (fun c => ?_)
  rotate_left
  · exact absurd rfl c
  refine kjZ_y rfl rfl 4 _ _ _ _ ty1 ?_
  refine (And.intro (ty1.k (by decide) rfl) (And.intro (Nat.le_of_ble_eq_true rfl) (And.intro (Or.inl ⟨(Nat.le_of_ble_eq_true rfl), (ty1.k (by decide) rfl)⟩) (And.intro (Nat.le_of_ble_eq_true rfl) (And.intro (Nat.le_of_ble_eq_true rfl) (kjY_mono ty1 (fun q_ u2 ty2 xu2 h_ => ?_) (kx_id ty1 w1 hB hv _ rfl)))))))
  obtain ⟨k, nm2, rfl, p2, p3, w2, s2⟩ := h_
  intro _ _
  refine kjZ_y rfl rfl 5 _ _ _ _ ty2 ?_
  refine (And.intro (Nat.le_of_ble_eq_true rfl) (And.intro (ty2.k (by decide) rfl) (And.intro (Nat.le_of_ble_eq_true rfl) (And.intro (Or.inl ⟨(Nat.le_of_ble_eq_true rfl), (ty2.k (by decide) rfl)⟩) (And.intro (Nat.le_of_ble_eq_true rfl) (And.intro (Nat.le_of_ble_eq_true rfl) (kjY_mono ty2 (fun q_ u3 ty3 xu3 h_ => ?_) (kx_find ty2 w2 p2 _ rfl))))))))
  obtain ⟨rfl, q3⟩ := h_
  intro _ _
  have sH := hH.tr (s1.tr s2).h
  have pA := p1.tr p3
  have s42 : ∀ (z : kS) (nm' : List (List Int32)) (ks' : List KC) (o3 : Value) (x1 : Int32), kTY z → KWd σ0 B z ws nm' ks' → (∀ z2, KWd σ0 B z2 ws nm' ks' → SCl scA z z2 → cdP σ0 B σ ws nm ks o none z2) → kjY kPP (kQQ Y) (d + 7) 255 42 [some (.ref 75), some (.int x1), some o3] [] z (cdP σ0 B σ ws nm ks o) := by
    intro z nm' ks' o3 x1 tz wz hz
    obtain ⟨b, hb, eb⟩ := wz.2.2.2.2.2.2.1
    have kb := ob_k tz (ANn_b b (ANb_n b hb)).1
    refine kjZ_y rfl rfl 12 _ _ _ _ tz ?_
    refine (And.intro (tz.k (by decide) rfl) (And.intro (tz.k (by decide) rfl) (Exists.intro _ (And.intro eb (And.intro (tz.k (by decide) rfl) (And.intro (tz.k (by decide) rfl) (And.intro (tz.k (by decide) rfl) (And.intro (tz.k (by decide) rfl) (And.intro (Nat.le_of_ble_eq_true rfl) (And.intro (Or.inl ⟨(Nat.le_of_ble_eq_true rfl), (by assumption)⟩) (And.intro (Nat.le_of_ble_eq_true rfl) (And.intro (Nat.le_of_ble_eq_true rfl) (kjY_mono tz (fun q_ u5 ty5 xu5 h_ => ?_) (kx_number tz wz hb _))))))))))))))
    obtain ⟨rfl, w5, s5⟩ := h_
    intro _ _
    refine kjZ_y rfl rfl 1 _ _ _ _ ty5 ?_
    refine And.intro rfl (And.intro rfl ?_)
    exact hz u5 w5 s5
  rcases q3 with ⟨rfl, q3⟩ | ⟨P, y, Q, rfl, f0, f1, f2⟩
  · refine kjZ_y rfl rfl 8 _ _ _ _ ty3 ?_
    refine (And.intro (Nat.le_of_ble_eq_true rfl) (And.intro (ty3.k (by decide) rfl) (And.intro (Nat.le_of_ble_eq_true rfl) (And.intro (Or.inl ⟨(Nat.le_of_ble_eq_true rfl), (ty3.k (by decide) rfl)⟩) (And.intro (Nat.le_of_ble_eq_true rfl) (And.intro (Nat.le_of_ble_eq_true rfl) (kjY_mono ty3 (fun q_ u4 ty4 xu4 h_ => ?_) (kx_cutSpan ty3 w2 (n := 0) (by decide) _ rfl))))))))
    obtain ⟨rfl, w4, s4, lo, hi, t1, t2, t3, t4, -⟩ := h_
    intro _ _
    refine kjZ_y rfl rfl 10 _ _ _ _ ty4 ?_
    refine (And.intro (ty4.k (by decide) rfl) (And.intro (ty4.k (by decide) rfl) (And.intro (ty4.k (by decide) rfl) (And.intro (ty4.k (by decide) rfl) (And.intro (Nat.le_of_ble_eq_true rfl) (And.intro (Or.inl ⟨(Nat.le_of_ble_eq_true rfl), (ty4.k (by decide) rfl)⟩) (And.intro (Nat.le_of_ble_eq_true rfl) (And.intro (Nat.le_of_ble_eq_true rfl) (kjY_mono ty4 (fun q_ u5 ty5 xu5 h_ => ?_) (kx_rmLine0 ty4 _ _ _))))))))))
    obtain ⟨rfl, rfl⟩ := h_
    intro _ _
    exact s42 u5 _ _ _ _ ty5 w4 (fun z2 wz sz => cd_no pA wz hr ((sH.tr (s4.sub scHD)).tr sz.h) (by rw [ho, zcF_no q3]))
  · subst f0
    have hs4 : y.2.2.2.2.2.2.1 = 4 := so_1 (s := 4) f2 hso
    have hs0 : ¬ y.2.2.2.2.2.2.1 = 0 := by rw [hs4]; decide
    obtain ⟨z1, z2, kv⟩ := w2.sz hs0
    have hZ := hS y (List.mem_append_right _ List.mem_cons_self) hs4
    have e10' : u3.2.1 53 10 = a := ((s1.tr s2) (53, 10) (by decide)).2.1.trans e10
    have e9' : u3.2.1 53 9 = b := ((s1.tr s2) (53, 9) (by decide)).2.1.trans e9
    refine kjZ_y rfl rfl 8 _ _ _ _ ty3 ?_
    refine (And.intro (Nat.le_of_ble_eq_true rfl) (And.intro (ty3.k (by decide) rfl) (And.intro (by assumption) (And.intro (Nat.le_of_ble_eq_true rfl) (And.intro (Or.inl ⟨(Nat.le_of_ble_eq_true rfl), (ty3.k (by decide) rfl)⟩) (And.intro (Nat.le_of_ble_eq_true rfl) (And.intro (Nat.le_of_ble_eq_true rfl) (kjY_mono ty3 (fun q_ u4 ty4 xu4 h_ => ?_) (kx_cutSpan ty3 w2 (n := y.2.2.2.2.2.2.2.2.2.2.length) (by omega) _ z1)))))))))
    obtain ⟨rfl, w4, s4, lo, hi, t1, t2, t3, t4, t5⟩ := h_
    intro _ _
    rw [e10', e9'] at t5
    have kv4 := (w4.sz hs0).2.2
    have hoo : o = if hi ≤ lo then none else some (stlA (skA (P ++ y :: Q)) P.length (fun es => cutL es lo (hi - lo))) := by
      rw [ho]
      refine zcF_at f2 (by decide) a b 0 0 0 t4 (fun n z hz => ?_)
      show decide ((strF a b y.2.2.2.2.2.2.2.2.2.2.length).1 ≤ n ∧ n < (strF a b y.2.2.2.2.2.2.2.2.2.2.length).2) = true ↔ _
      rw [decide_eq_true_iff]
      rcases t5 with t5 | ⟨t5, t6⟩
      · rw [t5]
      · rw [t6]
        show (0 ≤ n ∧ n < 0) ↔ _
        omega
    by_cases c9 : hi ≤ lo
    · rw [if_pos c9] at hoo
      refine kjZ_y rfl rfl 10 _ _ _ _ ty4 ?_
      refine (And.intro (ty4.k (by decide) rfl) (And.intro (ty4.k (by decide) rfl) (And.intro (ty4.k (by decide) rfl) (And.intro (ty4.k (by decide) rfl) (And.intro (Nat.le_of_ble_eq_true rfl) (And.intro (Or.inl ⟨(Nat.le_of_ble_eq_true rfl), (ty4.k (by decide) rfl)⟩) (And.intro (Nat.le_of_ble_eq_true rfl) (And.intro (Nat.le_of_ble_eq_true rfl) (kjY_mono ty4 (fun q_ u5 ty5 xu5 h_ => ?_) (kx_rmLineN ty4 w4 hs4 _ _ _ (by show ¬ u4.1 53 11 < u4.1 53 12; rw [t1, t2, nlt (by omega) (by omega)]; omega)))))))))))
      obtain ⟨rfl, rfl⟩ := h_
      intro _ _
      exact s42 u5 _ _ _ _ ty5 w4 (fun z2 wz sz => cd_no pA wz hr ((sH.tr (s4.sub scHD)).tr sz.h) hoo)
    · rw [if_neg c9] at hoo
      refine kjZ_y rfl rfl 10 _ _ _ _ ty4 ?_
      refine (And.intro (ty4.k (by decide) rfl) (And.intro (ty4.k (by decide) rfl) (And.intro (ty4.k (by decide) rfl) (And.intro (ty4.k (by decide) rfl) (And.intro (Nat.le_of_ble_eq_true rfl) (And.intro (Or.inl ⟨(Nat.le_of_ble_eq_true rfl), (ty4.k (by decide) rfl)⟩) (And.intro (Nat.le_of_ble_eq_true rfl) (And.intro (Nat.le_of_ble_eq_true rfl) (kjY_mono ty4 (fun q_ u5 ty5 xu5 h_ => ?_) (kx_rmLine (d := d + 2) ty4 w4 hr hs4 hZ (k := k) (by rw [f1]; exact p2) (a := lo) (b := hi) (by omega) t4 _ _ _ rfl t1 t2))))))))))
      obtain ⟨rfl, nmA, ksA, pA5, wA, rA, eA, cA, sA5⟩ := h_
      intro _ _
      exact s42 u5 _ _ _ _ ty5 wA (fun z2 wz sz => cd_ok (pA.tr pA5) wz rA eA ((sz (59, 18) (by decide)).1.trans cA) ((((sH.tr (s4.sub scHD)).sub scGH).tr sA5).tr sz.g) hoo)
theorem kx_zremscore (ty : kTY σ) (w : KWd σ0 B σ ws nm ks) (hr : RSD ks) (hB : BOK B ws) {j : Nat} (hj : CMD σ j) {v a2 a3 : List Int32} (hv : ws[1]? = some v) (h2 : ws[2]? = some a2) (h3 : ws[3]? = some a3) (hS : ∀ x ∈ ks, x.2.2.2.2.2.2.1 = 4 → ZP x.2.2.2.2.2.2.2.2.2.2) {o : Option (List AK)} (ho1 : bsF a2 a3 = none → o = none) (ho2 : rfZ (σ.1 59 17) ks j v 4 → o = none) (ho3 : ∀ q, bsF a2 a3 = some q → ¬ rfZ (σ.1 59 17) ks j v 4 → o = zcF (skA ks) v 91 0 0 q.2.2 q.1 q.2.1) :
    kjY kPP (kQQ Y) (d + 9) 256 0 (mjL0 5 [.ref 75]) [] σ (cdP σ0 B σ ws nm ks o) := by
  have hlen := (List.getElem?_eq_some_iff.mp hv).1
  obtain ⟨hbs1, hbs2⟩ := bs_ib a2 a3
  refine kjZ_y rfl rfl 2 _ _ _ _ ty ?_
  refine (And.intro (Nat.le_of_ble_eq_true rfl) (And.intro (Or.inl ⟨(Nat.le_of_ble_eq_true rfl), (ty.k (by decide) rfl)⟩) (And.intro (Nat.le_of_ble_eq_true rfl) (And.intro (Nat.le_of_ble_eq_true rfl) (kjY_mono ty (fun q_ u0 ty0 xu0 h_ => ?_) (kx_lacksBounds (d := d) ty w h2 h3))))))
  obtain ⟨w0, s0, q⟩ := h_
  intro _ _
  have hH := s0.sub scHZ
  rcases q with ⟨rfl, q1, q2⟩ | ⟨rfl, q1⟩
  rotate_left
  · refine kjZ_y rfl rfl 1 _ _ _ _ ty0 ?_
    refine And.intro (fun c => ?_) (fun c => ?_)
    rotate_left
    · exact absurd (show ¬ (1 : Int32) = 0 by decide) c
    refine kjZ_y rfl rfl 1 _ _ _ _ ty0 ?_
    refine And.intro rfl (And.intro rfl ?_)
    exact cd_no PRE.rf w0 hr hH (ho1 (hbs1.mpr q1))
  obtain ⟨qb, hqb⟩ : ∃ qb, bsF a2 a3 = some qb := by
    cases h9 : bsF a2 a3 with
    | none => exact absurd ⟨q1, q2⟩ (hbs1.mp h9)
    | some qb => exact ⟨qb, rfl⟩
  have hib := hbs2 qb hqb
  refine kjZ_y rfl rfl 1 _ _ _ _ ty0 ?_
  refine And.intro (fun c => ?_) (fun c => ?_)
  · exact absurd rfl c
  refine kjZ_y rfl rfl 6 _ _ _ _ ty0 ?_
  refine (And.intro (ty0.k (by decide) rfl) (And.intro (Nat.le_of_ble_eq_true rfl) (And.intro (Or.inl ⟨(Nat.le_of_ble_eq_true rfl), (ty0.k (by decide) rfl)⟩) (And.intro (Nat.le_of_ble_eq_true rfl) (And.intro (Nat.le_of_ble_eq_true rfl) (kjY_mono ty0 (fun q_ u1 ty1 xu1 h_ => ?_) (kx_refuses ty0 w0 hB (hj.sc hH) (a := 1) (b := 1) (by omega) (by omega) (s := 4) (by decide) _ _ _ rfl rfl rfl)))))))
  obtain ⟨nm1, p1, w1, s1, q⟩ := h_
  intro _ _
  rw [rf1 w0 hv, (hH (59, 17) (by decide)).1] at q
  rcases q with ⟨rfl, q⟩ | ⟨rfl, q⟩
  · refine kjZ_y rfl rfl 1 _ _ _ _ ty1 ?_
    refine And.intro (fun c => ?_) (fun c => ?_)
    · exact absurd (show (1 : Int32) = 0 from c) (by decide)
    refine kjZ_y rfl rfl 1 _ _ _ _ ty1 ?_
    refine And.intro rfl (And.intro rfl ?_)
    exact cd_no p1 w1 hr (hH.tr s1.h) (ho2 q)
  have ho := ho3 qb hqb q
  have hso := fun z => q (Or.inr z)
  refine kjZ_y rfl rfl 1 _ _ _ _ ty1 ?_
  refine And.intro (fun c => ?_) (fun c => ?_)
  rotate_left
  · exact absurd rfl c
  refine kjZ_y rfl rfl 4 _ _ _ _ ty1 ?_
  refine (And.intro (ty1.k (by decide) rfl) (And.intro (Nat.le_of_ble_eq_true rfl) (And.intro (Or.inl ⟨(Nat.le_of_ble_eq_true rfl), (ty1.k (by decide) rfl)⟩) (And.intro (Nat.le_of_ble_eq_true rfl) (And.intro (Nat.le_of_ble_eq_true rfl) (kjY_mono ty1 (fun q_ u2 ty2 xu2 h_ => ?_) (kx_id ty1 w1 hB hv _ rfl)))))))
  obtain ⟨k, nm2, rfl, p2, p3, w2, s2⟩ := h_
  intro _ _
  refine kjZ_y rfl rfl 5 _ _ _ _ ty2 ?_
  refine (And.intro (Nat.le_of_ble_eq_true rfl) (And.intro (ty2.k (by decide) rfl) (And.intro (Nat.le_of_ble_eq_true rfl) (And.intro (Or.inl ⟨(Nat.le_of_ble_eq_true rfl), (ty2.k (by decide) rfl)⟩) (And.intro (Nat.le_of_ble_eq_true rfl) (And.intro (Nat.le_of_ble_eq_true rfl) (kjY_mono ty2 (fun q_ u3 ty3 xu3 h_ => ?_) (kx_find ty2 w2 p2 _ rfl))))))))
  obtain ⟨rfl, q3⟩ := h_
  intro _ _
  have sH := hH.tr (s1.tr s2).h
  have pA := p1.tr p3
  have s39 : ∀ (z : kS) (nm' : List (List Int32)) (ks' : List KC) (o3 : Value) (x1 x3 x4 : Int32), kTY z → KWd σ0 B z ws nm' ks' → (∀ z2, KWd σ0 B z2 ws nm' ks' → SCl scA z z2 → cdP σ0 B σ ws nm ks o none z2) → kjY kPP (kQQ Y) (d + 9) 256 39 [some (.ref 75), some (.int x1), some o3, some (.int x3), some (.int x4)] [] z (cdP σ0 B σ ws nm ks o) := by
    intro z nm' ks' o3 x1 x3 x4 tz wz hz
    obtain ⟨b, hb, eb⟩ := wz.2.2.2.2.2.2.1
    have kb := ob_k tz (ANn_b b (ANb_n b hb)).1
    refine kjZ_y rfl rfl 8 _ _ _ _ tz ?_
    refine (And.intro (tz.k (by decide) rfl) (And.intro (tz.k (by decide) rfl) (Exists.intro _ (And.intro eb (And.intro (Nat.le_of_ble_eq_true rfl) (And.intro (Nat.le_of_ble_eq_true rfl) (And.intro (Nat.le_of_ble_eq_true rfl) (kjY_mono tz (fun q_ u5 ty5 xu5 h_ => ?_) (k_max tz _ _)))))))))
    obtain ⟨rfl, rfl⟩ := h_
    intro _ _
    refine kjZ_y rfl rfl 2 _ _ _ _ ty5 ?_
    refine (And.intro (Nat.le_of_ble_eq_true rfl) (And.intro (Or.inl ⟨(Nat.le_of_ble_eq_true rfl), (by assumption)⟩) (And.intro (Nat.le_of_ble_eq_true rfl) (And.intro (Nat.le_of_ble_eq_true rfl) (kjY_mono ty5 (fun q_ u6 ty6 xu6 h_ => ?_) (kx_number ty5 wz hb _))))))
    obtain ⟨rfl, w6, s6⟩ := h_
    intro _ _
    refine kjZ_y rfl rfl 1 _ _ _ _ ty6 ?_
    refine And.intro rfl (And.intro rfl ?_)
    exact hz u6 w6 s6
  rcases q3 with ⟨rfl, q3⟩ | ⟨P, y, Q, rfl, f0, f1, f2⟩
  · refine kjZ_y rfl rfl 6 _ _ _ _ ty3 ?_
    refine (And.intro (Nat.le_of_ble_eq_true rfl) (And.intro (Nat.le_of_ble_eq_true rfl) (And.intro (Or.inl ⟨(Nat.le_of_ble_eq_true rfl), (ty3.k (by decide) rfl)⟩) (And.intro (Nat.le_of_ble_eq_true rfl) (And.intro (Nat.le_of_ble_eq_true rfl) (kjY_mono ty3 (fun q_ u4 ty4 xu4 h_ => ?_) (kx_edge0 (d := d) ty3 w2 h2 _ _ rfl)))))))
    obtain ⟨w4, s4, rfl⟩ := h_
    intro _ _
    refine kjZ_y rfl rfl 6 _ _ _ _ ty4 ?_
    refine (And.intro (Nat.le_of_ble_eq_true rfl) (And.intro (Nat.le_of_ble_eq_true rfl) (And.intro (Or.inl ⟨(Nat.le_of_ble_eq_true rfl), (ty4.k (by decide) rfl)⟩) (And.intro (Nat.le_of_ble_eq_true rfl) (And.intro (Nat.le_of_ble_eq_true rfl) (kjY_mono ty4 (fun q_ u5 ty5 xu5 h_ => ?_) (kx_edge0 (d := d) ty4 w4 h3 _ _ rfl)))))))
    obtain ⟨w5, s5, rfl⟩ := h_
    intro _ _
    refine kjZ_y rfl rfl 7 _ _ _ _ ty5 ?_
    refine (And.intro (Nat.le_of_ble_eq_true rfl) (And.intro (Nat.le_of_ble_eq_true rfl) (And.intro (Or.inl ⟨(Nat.le_of_ble_eq_true rfl), (ty5.k (by decide) rfl)⟩) (And.intro (Nat.le_of_ble_eq_true rfl) (And.intro (Nat.le_of_ble_eq_true rfl) (kjY_mono ty5 (fun q_ u6 ty6 xu6 h_ => ?_) (kx_rmLine0 ty5 _ _ _)))))))
    obtain ⟨rfl, rfl⟩ := h_
    intro _ _
    exact s39 u6 _ _ _ _ _ _ ty6 w5 (fun z2 wz sz => cd_no pA wz hr ((sH.tr ((s4.tr s5).sub scHZ)).tr sz.h) (by rw [ho, zcF_no q3]))
  · subst f0
    have hs4 : y.2.2.2.2.2.2.1 = 4 := so_1 (s := 4) f2 hso
    have hs0 : ¬ y.2.2.2.2.2.2.1 = 0 := by rw [hs4]; decide
    obtain ⟨z1, z2, kv⟩ := w2.sz hs0
    have hZ := hS y (List.mem_append_right _ List.mem_cons_self) hs4
    refine kjZ_y rfl rfl 6 _ _ _ _ ty3 ?_
    refine (And.intro (Nat.le_of_ble_eq_true rfl) (And.intro (Nat.le_of_ble_eq_true rfl) (And.intro (Or.inl ⟨(Nat.le_of_ble_eq_true rfl), (ty3.k (by decide) rfl)⟩) (And.intro (Nat.le_of_ble_eq_true rfl) (And.intro (Nat.le_of_ble_eq_true rfl) (kjY_mono ty3 (fun q_ u4 ty4 xu4 h_ => ?_) (kx_edge (d := d) ty3 w2 hs4 hZ h2 false _ _ rfl rfl)))))))
    obtain ⟨w4, s4, lo, rfl, hlo⟩ := h_
    intro _ _
    have kv4 := (w4.sz hs0).2.2
    refine kjZ_y rfl rfl 6 _ _ _ _ ty4 ?_
    refine (And.intro (Nat.le_of_ble_eq_true rfl) (And.intro (Nat.le_of_ble_eq_true rfl) (And.intro (Or.inl ⟨(Nat.le_of_ble_eq_true rfl), (ty4.k (by decide) rfl)⟩) (And.intro (Nat.le_of_ble_eq_true rfl) (And.intro (Nat.le_of_ble_eq_true rfl) (kjY_mono ty4 (fun q_ u5 ty5 xu5 h_ => ?_) (kx_edge (d := d) ty4 w4 hs4 hZ h3 true _ _ rfl rfl)))))))
    obtain ⟨w5, s5, hi, rfl, hhi⟩ := h_
    intro _ _
    have kv5 := (w5.sz hs0).2.2
    have hlo1 := hlo.1
    have hhi1 := hhi.1
    have sH2 : SCl scH σ u5 := sH.tr ((s4.tr s5).sub scHZ)
    have hoo : o = if hi ≤ lo then none else some (stlA (skA (P ++ y :: Q)) P.length (fun es => cutL es lo (hi - lo))) := by
      rw [ho]
      refine zcF_at f2 (by decide) 0 0 _ _ _ hhi1 (fun n z hz => ?_)
      show ibT qb.2.2 qb.1 qb.2.1 z.2.2 = true ↔ _
      rw [hib]
      constructor
      · intro h9
        refine ⟨?_, ?_⟩
        · by_cases c9 : lo ≤ n
          · exact c9
          · exact absurd (hlo.2.1 n z (by omega) hz) h9.1
        · by_cases c9 : n < hi
          · exact c9
          · exact absurd h9.2 (hhi.2.2 n z (by omega) hz)
      · intro h9
        exact ⟨hlo.2.2 n z h9.1 hz, hhi.2.1 n z h9.2 hz⟩
    by_cases c9 : hi ≤ lo
    · rw [if_pos c9] at hoo
      refine kjZ_y rfl rfl 7 _ _ _ _ ty5 ?_
      refine (And.intro (Nat.le_of_ble_eq_true rfl) (And.intro (Nat.le_of_ble_eq_true rfl) (And.intro (Or.inl ⟨(Nat.le_of_ble_eq_true rfl), (ty5.k (by decide) rfl)⟩) (And.intro (Nat.le_of_ble_eq_true rfl) (And.intro (Nat.le_of_ble_eq_true rfl) (kjY_mono ty5 (fun q_ u6 ty6 xu6 h_ => ?_) (kx_rmLineN ty5 w5 hs4 _ _ _ (by rw [nlt (by omega) (by omega)]; omega))))))))
      obtain ⟨rfl, rfl⟩ := h_
      intro _ _
      exact s39 u6 _ _ _ _ _ _ ty6 w5 (fun z2 wz sz => cd_no pA wz hr (sH2.tr sz.h) hoo)
    · rw [if_neg c9] at hoo
      refine kjZ_y rfl rfl 7 _ _ _ _ ty5 ?_
      refine (And.intro (Nat.le_of_ble_eq_true rfl) (And.intro (Nat.le_of_ble_eq_true rfl) (And.intro (Or.inl ⟨(Nat.le_of_ble_eq_true rfl), (ty5.k (by decide) rfl)⟩) (And.intro (Nat.le_of_ble_eq_true rfl) (And.intro (Nat.le_of_ble_eq_true rfl) (kjY_mono ty5 (fun q_ u6 ty6 xu6 h_ => ?_) (kx_rmLine (d := d + 4) ty5 w5 hr hs4 hZ (k := k) (by rw [f1]; exact p2) (a := lo) (b := hi) (by omega) hhi1 _ _ _ rfl rfl rfl)))))))
      obtain ⟨rfl, nmA, ksA, pA5, wA, rA, eA, cA, sA5⟩ := h_
      intro _ _
      exact s39 u6 _ _ _ _ _ _ ty6 wA (fun z2 wz sz => cd_ok (pA.tr pA5) wz rA eA ((sz (59, 18) (by decide)).1.trans cA) (((sH2.sub scGH).tr sA5).tr sz.g) hoo)
end KZCUT
