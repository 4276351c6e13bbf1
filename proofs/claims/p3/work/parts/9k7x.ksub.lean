/-! SUBSCRIBE, UNSUBSCRIBE. -/
section KSUB
variable {Y : Nat → MethodName × ByteArray} {d : Nat} {σ u : kS} {B ws nm nm' : List (List Int32)} {ks ks' : List KC}
theorem CN_8 : ∀ c ∈ CNs, c + 8 < 76 ∧ kd0 (c + 8) = (20, 32) ∧ (c + 3) ∈ ANb := by decide
theorem otP.tr {u0 : kS} {r : Option Value} (ts : kTY σ) (h : otP B u0 ws nm' ks r u) (hp : PRE nm nm') (s : SCl scA σ u0) (c : Cq σ u0) : otP B σ ws nm ks r u := by
  obtain ⟨h1, nm2, h2, h3, h4, h5⟩ := h
  exact ⟨h1, nm2, hp.tr h2, h3, s.tr h4, Cq.tr ts c h5⟩
theorem kx_leave (ty : kTY σ) (g : KO B σ ws nm ks) {c : Nat} (hc : c ∈ CNs) (x : Int32) : kjY kPP (kQQ Y) (d + 1) 73 0 (mjL0 2 [.ref c, .int x]) [] σ (otP B σ ws nm ks) := by
  obtain ⟨q1, q2, -⟩ := CN_ok c hc
  obtain ⟨q7, q8, -⟩ := CN_8 c hc
  have kc : (σ.2.2.2.1 c).1 = 1 := ty.k q1 q2
  obtain ⟨n, hn, en⟩ := g.1.2.2.2.2.2.2 c hc
  refine kjZ_y rfl rfl 2 _ _ _ _ ty ?_
  refine And.intro (fun c1 => ?_) (fun c1 => ?_)
  · refine kjZ_y rfl rfl 1 _ _ _ _ ty ?_
    refine And.intro rfl (And.intro rfl ?_)
    exact ⟨rfl, nm, PRE.rf, g, SCl.rf, Cq.rf⟩
  refine kjZ_y rfl rfl 4 _ _ _ _ ty ?_
  refine (And.intro (by assumption) (And.intro (fun c2 => ?_) (fun c2 => ?_)))
  · refine kjZ_y rfl rfl 1 _ _ _ _ ty ?_
    refine And.intro rfl (And.intro rfl ?_)
    exact ⟨rfl, nm, PRE.rf, g, SCl.rf, Cq.rf⟩
  have c1 : 0 ≤ x := Int32.not_lt.mp c1
  obtain ⟨i, hi31, ei⟩ := nI_ofp c1
  have c2 : ¬ σ.1 c 11 ≤ x := c2
  rw [en, ei, nle (by omega) hi31] at c2
  refine kjZ_y rfl rfl 6 _ _ _ _ ty ?_
  refine (And.intro (by assumption) (And.intro (by assumption) (And.intro (Or.inl rfl) (fun ty' => ?_))))
  have go : ∀ z, kTY z → z = (mjIu σ.1 c 11 (σ.1 c 11 - Int32.ofInt 1), σ.2) → kjY kPP (kQQ Y) (d + 1) 73 12 [some (.ref c), some (.int x)] [] z (otP B σ ws nm ks) := by
    intro z tz ez
    have e1 : σ.1 c 11 - Int32.ofInt 1 = nI (n - 1) := by rw [en]; exact nI_sub3 (show 1 ≤ n by omega)
    obtain ⟨g1, s1, h1⟩ := g.ciq ty hc (Or.inr ⟨n - 1, e1, Or.inr ⟨rfl, by omega⟩⟩) ez
    have kz : (z.2.2.2.1 c).1 = 1 := tz.k q1 q2
    have kr : z.2.2.2.1 (c + 8) = (20, 32) := tz.kl q7 q8
    have z11 : z.1 c 11 = nI (n - 1) := by
      rw [ez]; show mjIu σ.1 c 11 _ c 11 = _; rw [mjIu_p, e1]
    refine kjZ_y rfl rfl 13 _ _ _ _ tz ?_
    refine (And.intro (by assumption) (And.intro (by assumption) (And.intro (by assumption) (Exists.intro (i + 1) (Exists.intro i (Exists.intro (n - 1 - i) (And.intro ⟨by rw [ei]; exact nI_1 i, ei, by rw [z11, ei]; exact nI_sub3 (show i ≤ n - 1 by omega)⟩ (And.intro ⟨rfl, by show _ ≤ (z.2.2.2.1 (c + 8)).2; rw [kr]; show _ ≤ 32; omega, by show _ ≤ (z.2.2.2.1 (c + 8)).2; rw [kr]; show _ ≤ 32; omega⟩ (And.intro ⟨(Nat.le_of_ble_eq_true rfl), (Nat.le_of_ble_eq_true rfl)⟩ (Or.inl (And.intro (Or.inl (kdk kr)) (fun tz' => ?_))))))))))))
    refine kjZ_y rfl rfl 1 _ _ _ _ tz' ?_
    refine And.intro rfl (And.intro rfl ?_)
    have fin : ∀ y, y = (kUp z.1 (c + 8) (va_cpy (z.1 (c + 8)) (z.1 (c + 8)) (i + 1) i (n - 1 - i)), z.2) → otP B σ ws nm ks none y := by
      intro y ey
      obtain ⟨g2, s2, h2⟩ := g1.rwq tz hc (Or.inr ⟨rfl, rfl⟩) ey
      exact ⟨rfl, nm, PRE.rf, g2, s1.tr s2, Cq.tr ty h1 h2⟩
    exact fin _ rfl
  exact go _ ty' rfl
/-- what a step of the answer gives, in the other commands' world -/
theorem KO.w (ty : kTY σ) (g : KO B σ ws nm ks) {r : Option Value} (h : wP σ B σ ws nm ks r u) : r = none ∧ KO B u ws nm ks ∧ SCl scA σ u ∧ Ch true OFf OFo σ u := ⟨h.1, (g.st ty h.2.1).1, h.2.2, (g.st ty h.2.1).2⟩
theorem KO.wq (ty : kTY σ) (g : KO B σ ws nm ks) {r : Option Value} (h : wP σ B σ ws nm ks r u) : r = none ∧ KO B u ws nm ks ∧ SCl scA σ u ∧ Cq σ u := ⟨h.1, (g.st ty h.2.1).1, h.2.2, (g.stq ty h.2.1).2⟩
theorem k_sub_l (hB : BOK B ws) {c : Nat} (hc : c ∈ CNs) : ∀ (f i : Nat) (x3 : Int32) (l4 l5 : Option Value) (nm' : List (List Int32)) (u : kS), i + f = ws.length → x3 = nI i → kTY u → PRE nm nm' → KO B u ws nm' ks → SCl scA σ u → Cq σ u → kTY σ →
    kjY kPP (kQQ Y) (d + 8) 71 2 [some (.ref c), some (.ref 53), some (.ref 48), some (.int x3), l4, l5] [] u (otP B σ ws nm ks) := by
  obtain ⟨q1, q2, -, q4, -⟩ := CN_ok c hc
  obtain ⟨q7, q8, q9⟩ := CN_8 c hc
  intro f
  induction f with
  | zero =>
    intro i x3 l4 l5 nm' u hi e3 tu hp g su hu ts
    obtain ⟨-, -, -, -, ⟨h4, h1024⟩, -⟩ := g.2.1
    refine kjZ_y rfl rfl 4 _ _ _ _ tu ?_
    refine (And.intro (tu.k (by decide) rfl) (And.intro (fun c1 => ?_) (fun c1 => ?_)))
    rotate_left
    · refine absurd (show u.1 53 4 ≤ x3 from ?_) c1
      rw [h4, e3, nle (by omega) (by omega)]; omega
    refine kjZ_y rfl rfl 1 _ _ _ _ tu ?_
    refine And.intro rfl (And.intro rfl ?_)
    exact ⟨rfl, nm', hp, g, su, hu⟩
  | succ f ih =>
    intro i x3 l4 l5 nm' u hi e3 tu hp g su hu ts
    have kc : (u.2.2.2.1 c).1 = 1 := tu.k q1 q2
    obtain ⟨-, -, -, -, ⟨h4, h1024⟩, -⟩ := g.2.1
    refine kjZ_y rfl rfl 4 _ _ _ _ tu ?_
    refine (And.intro (tu.k (by decide) rfl) (And.intro (fun c1 => ?_) (fun c1 => ?_)))
    · refine absurd (show u.1 53 4 ≤ x3 from c1) ?_
      rw [h4, e3, nle (by omega) (by omega)]; omega
    have hv := List.getElem?_eq_getElem (show i < ws.length by omega)
    generalize ws[i] = v at hv
    refine kjZ_y rfl rfl 3 _ _ _ _ tu ?_
    refine (And.intro (Nat.le_of_ble_eq_true rfl) (And.intro (Or.inl ⟨(Nat.le_of_ble_eq_true rfl), (tu.k (by decide) rfl)⟩) (And.intro (Nat.le_of_ble_eq_true rfl) (And.intro (Nat.le_of_ble_eq_true rfl) (kjY_mono tu (fun q_ u1 ty1 xu1 h_ => ?_) (kx_id tu (g.in_ tu) hB hv _ e3))))))
    obtain ⟨k, nm2, rfl, p2, p3, w1, s1⟩ := h_
    intro _ _
    obtain ⟨g1, h1⟩ := g.stq tu w1
    have kc1 : (u1.2.2.2.1 c).1 = 1 := ty1.k q1 q2
    have kr1 : u1.2.2.2.1 (c + 8) = (20, 32) := ty1.kl q7 q8
    obtain ⟨n, hn, en⟩ := g1.1.2.2.2.2.2.2 c hc
    have hs2 := su.tr s1
    have hu2 := Cq.tr ts hu h1
    have nx : ∀ (z : kS) (x5 : Int32), kTY z → KO B z ws nm2 ks → SCl scA σ z → Cq σ z → kjY kPP (kQQ Y) (d + 8) 71 79 [some (.ref c), some (.ref 53), some (.ref 48), some (.int x3), some (.int (nI k)), some (.int x5)] [] z (otP B σ ws nm ks) := by
      intro z x5 tz gz sz hz
      refine kjZ_y rfl rfl 2 _ _ _ _ tz ?_
      exact ih (i + 1) _ _ _ nm2 z (by omega) (by rw [e3]; exact nI_1 i) tz (hp.tr p3) gz sz hz ts
    -- the answer
    have s60 : ∀ (z : kS) (x5 : Int32), kTY z → KO B z ws nm2 ks → SCl scA σ z → Cq σ z → kjY kPP (kQQ Y) (d + 8) 71 60 [some (.ref c), some (.ref 53), some (.ref 48), some (.int x3), some (.int (nI k)), some (.int x5)] [] z (otP B σ ws nm ks) := by
      intro z x5 tz gz sz hz
      have kz : (z.2.2.2.1 c).1 = 1 := tz.k q1 q2
      have ko := ob_k tz q4
      refine kjZ_y rfl rfl 4 _ _ _ _ tz ?_
      refine (And.intro (by assumption) (And.intro (Nat.le_of_ble_eq_true rfl) (And.intro (Or.inl ⟨(Nat.le_of_ble_eq_true rfl), (by assumption)⟩) (And.intro (Nat.le_of_ble_eq_true rfl) (And.intro (Nat.le_of_ble_eq_true rfl) (kjY_mono tz (fun q_ z1 t1 x1 h_ => ?_) (kx_rowHead tz (gz.in_ tz) q9 _)))))))
      have e1 := h_
      intro _ _
      obtain ⟨rfl, g2, a2, b2⟩ := gz.wq tz e1
      have kz1 : (z1.2.2.2.1 c).1 = 1 := t1.k q1 q2
      have ko1 := ob_k t1 q4
      refine kjZ_y rfl rfl 4 _ _ _ _ t1 ?_
      refine (And.intro (by assumption) (And.intro rfl (And.intro (Nat.le_of_ble_eq_true rfl) (And.intro (Or.inl ⟨(Nat.le_of_ble_eq_true rfl), (by assumption)⟩) (And.intro (Nat.le_of_ble_eq_true rfl) (And.intro (Nat.le_of_ble_eq_true rfl) (kjY_mono t1 (fun q_ z2 t2 x2 h_ => ?_) (kx_text t1 (g2.in_ t1) q9 (by decide)))))))))
      have e2 := h_
      intro _ _
      obtain ⟨rfl, g3, a3, b3⟩ := g2.wq t1 e2
      have kz2 : (z2.2.2.2.1 c).1 = 1 := t2.k q1 q2
      have ko2 := ob_k t2 q4
      refine kjZ_y rfl rfl 5 _ _ _ _ t2 ?_
      refine (And.intro (by assumption) (And.intro (Nat.le_of_ble_eq_true rfl) (And.intro (Or.inl ⟨(Nat.le_of_ble_eq_true rfl), (t2.k (by decide) rfl)⟩) (And.intro (Nat.le_of_ble_eq_true rfl) (And.intro (Nat.le_of_ble_eq_true rfl) (kjY_mono t2 (fun q_ z3 t3 x3' h_ => ?_) (kx_copyArg t2 (g3.in_ t2) q9 _)))))))
      have e3' := h_
      intro _ _
      obtain ⟨rfl, g4, a4, b4⟩ := g3.wq t2 e3'
      have kz3 : (z3.2.2.2.1 c).1 = 1 := t3.k q1 q2
      have ko3 := ob_k t3 q4
      refine kjZ_y rfl rfl 6 _ _ _ _ t3 ?_
      refine (And.intro (by assumption) (And.intro (by assumption) (And.intro (Nat.le_of_ble_eq_true rfl) (And.intro (Or.inl ⟨(Nat.le_of_ble_eq_true rfl), (by assumption)⟩) (And.intro (Nat.le_of_ble_eq_true rfl) (And.intro (Nat.le_of_ble_eq_true rfl) (kjY_mono t3 (fun q_ z4 t4 x4 h_ => ?_) (kx_number t3 (g4.in_ t3) q9 _))))))))
      have e4 := h_
      intro _ _
      obtain ⟨rfl, g5, a5, b5⟩ := g4.wq t3 e4
      exact nx z4 x5 t4 g5 ((((sz.tr a2).tr a3).tr a4).tr a5) (Cq.tr ts (Cq.tr ts (Cq.tr ts (Cq.tr ts hz b2) b3) b4) b5)
    refine kjZ_y rfl rfl 8 _ _ _ _ ty1 ?_
    refine (And.intro (Nat.le_of_ble_eq_true rfl) (And.intro (by assumption) (And.intro (by assumption) (And.intro (Nat.le_of_ble_eq_true rfl) (And.intro (Or.inl ⟨(Nat.le_of_ble_eq_true rfl), (ty1.k (by decide) rfl)⟩) (And.intro (Nat.le_of_ble_eq_true rfl) (And.intro (Nat.le_of_ble_eq_true rfl) (kjY_mono ty1 (fun q_ u2 ty2 xu2 h_ => ?_) (k_findS ty1 g1.1.2.1.1 kr1 hn (by decide) _ _ en)))))))))
    obtain ⟨rfl, y, rfl, q⟩ := h_
    intro _ _
    refine kjZ_y rfl rfl 1 _ _ _ _ ty2 ?_
    refine (And.intro (Nat.le_of_ble_eq_true rfl) ?_)
    have s30 : (y < 0 → n < 32) → kjY kPP (kQQ Y) (d + 8) 71 30 [some (.ref c), some (.ref 53), some (.ref 48), some (.int x3), some (.int (nI k)), some (.int y)] [] u2 (otP B σ ws nm ks) := by
      intro hlt
      refine kjZ_y rfl rfl 2 _ _ _ _ ty2 ?_
      refine And.intro (fun c3 => ?_) (fun c3 => ?_)
      · exact s60 u2 y ty2 g1 hs2 hu2
      have c3 : y < 0 := Int32.not_le.mp (show ¬ 0 ≤ y from c3)
      have hn32 := hlt c3
      obtain ⟨p, hp1, hp2⟩ : ∃ p, p ≤ n ∧ Int32.ofInt (-1) - y = nI p := by
        rcases q with ⟨p, h1, h2⟩ | ⟨p, h1, h2⟩
        · rw [h2] at c3; exact absurd c3 (nI_n0 (by omega))
        · exact ⟨p, h1, by rw [h2]; exact m1_m1 p⟩
      refine kjZ_y rfl rfl 4 _ _ _ _ ty2 ?_
      refine (And.intro (Nat.le_of_ble_eq_true rfl) ?_)
      have go : ∀ y' : Int32, y' = nI p → kjY kPP (kQQ Y) (d + 8) 71 36 [some (.ref c), some (.ref 53), some (.ref 48), some (.int x3), some (.int (nI k)), some (.int y')] [] u2 (otP B σ ws nm ks) := by
        intro y' ey
        refine kjZ_y rfl rfl 13 _ _ _ _ ty2 ?_
        refine (And.intro (by assumption) (And.intro (by assumption) (And.intro (by assumption) (Exists.intro p (Exists.intro (p + 1) (Exists.intro (n - p) (And.intro ⟨ey, by rw [ey]; exact nI_1 p, by rw [en, ey]; exact nI_sub3 hp1⟩ (And.intro ⟨rfl, by show _ ≤ (u2.2.2.2.1 (c + 8)).2; rw [kr1]; show _ ≤ 32; omega, by show _ ≤ (u2.2.2.2.1 (c + 8)).2; rw [kr1]; show _ ≤ 32; omega⟩ (And.intro ⟨(Nat.le_of_ble_eq_true rfl), (Nat.le_of_ble_eq_true rfl)⟩ (Or.inl (And.intro (Or.inl (kdk kr1)) (fun ty2' => ?_))))))))))))
        have go2 : ∀ z, kTY z → z = (kUp u2.1 (c + 8) (va_cpy (u2.1 (c + 8)) (u2.1 (c + 8)) p (p + 1) (n - p)), u2.2) → kjY kPP (kQQ Y) (d + 8) 71 49 [some (.ref c), some (.ref 53), some (.ref 48), some (.int x3), some (.int (nI k)), some (.int y')] [] z (otP B σ ws nm ks) := by
          intro z tz ez
          obtain ⟨g2, a2, b2⟩ := g1.rwq ty2 hc (Or.inr ⟨rfl, rfl⟩) ez
          have kz : (z.2.2.2.1 c).1 = 1 := tz.k q1 q2
          have kr : z.2.2.2.1 (c + 8) = (20, 32) := tz.kl q7 q8
          have z11 : z.1 c 11 = nI n := by
            rw [ez]; show kUp u2.1 (c + 8) _ c 11 = _
            rw [kUp_n (by omega)]; exact en
          have vy : vp_in y' 32 := by rw [ey]; exact vp_in_nI (by omega) (by decide)
          refine kjZ_y rfl rfl 5 _ _ _ _ tz ?_
          refine (And.intro (by assumption) (And.intro (kdk kr) (And.intro (kdv kr vy) (fun tz' => ?_))))
          have go3 : ∀ z', kTY z' → z' = (mjIu z.1 (c + 8) y'.toNatClampNeg (nI k), z.2) → kjY kPP (kQQ Y) (d + 8) 71 54 [some (.ref c), some (.ref 53), some (.ref 48), some (.int x3), some (.int (nI k)), some (.int y')] [] z' (otP B σ ws nm ks) := by
            intro z' tz' ez'
            rw [mjIu_up] at ez'
            obtain ⟨g3, a3, b3⟩ := g2.rwq tz hc (Or.inr ⟨rfl, rfl⟩) ez'
            have kz' : (z'.2.2.2.1 c).1 = 1 := tz'.k q1 q2
            have z11' : z'.1 c 11 = nI n := by
              rw [ez']; show kUp z.1 (c + 8) _ c 11 = _
              rw [kUp_n (by omega)]; exact z11
            refine kjZ_y rfl rfl 6 _ _ _ _ tz' ?_
            refine (And.intro (by assumption) (And.intro (by assumption) (And.intro (Or.inl rfl) (fun tz'' => ?_))))
            have go4 : ∀ z'', kTY z'' → z'' = (mjIu z'.1 c 11 (z'.1 c 11 + Int32.ofInt 1), z'.2) → kjY kPP (kQQ Y) (d + 8) 71 60 [some (.ref c), some (.ref 53), some (.ref 48), some (.int x3), some (.int (nI k)), some (.int y')] [] z'' (otP B σ ws nm ks) := by
              intro z'' tz'' ez''
              obtain ⟨g4, a4, b4⟩ := g3.ciq tz' hc (Or.inr ⟨n + 1, by rw [z11']; exact nI_1 n, Or.inr ⟨rfl, by omega⟩⟩) ez''
              exact s60 z'' y' tz'' g4 (((hs2.tr a2).tr a3).tr a4) (Cq.tr ts (Cq.tr ts (Cq.tr ts hu2 b2) b3) b4)
            exact go4 _ tz'' rfl
          exact go3 _ tz' rfl
        exact go2 _ ty2' rfl
      exact go _ hp2
    refine kjZ_y rfl rfl 2 _ _ _ _ ty2 ?_
    refine And.intro (fun c3 => ?_) (fun c3 => ?_)
    · exact s30 (fun z => absurd z (Int32.not_lt.mpr c3))
    refine kjZ_y rfl rfl 4 _ _ _ _ ty2 ?_
    refine (And.intro (by assumption) (And.intro (fun c4 => ?_) (fun c4 => ?_)))
    · have c4 : ¬ u2.1 c 11 = (Int8.ofInt 32).toInt32 := c4
      rw [en, show (Int8.ofInt 32).toInt32 = nI 32 by decide, nI_eq (by omega) (by decide)] at c4
      exact s30 (fun _ => by omega)
    · have ko := ob_k ty2 q4
      refine kjZ_y rfl rfl 5 _ _ _ _ ty2 ?_
      refine (And.intro (by assumption) (And.intro rfl (And.intro (Nat.le_of_ble_eq_true rfl) (And.intro (Or.inl ⟨(Nat.le_of_ble_eq_true rfl), (by assumption)⟩) (And.intro (Nat.le_of_ble_eq_true rfl) (And.intro (Nat.le_of_ble_eq_true rfl) (kjY_mono ty2 (fun q_ z1 t1 x1 h_ => ?_) (kx_line ty2 (g1.in_ ty2) q9 _ (by decide)))))))))
      have e1 := h_
      intro _ _
      obtain ⟨rfl, g2, a2, b2⟩ := g1.wq ty2 e1
      have kz1 : (z1.2.2.2.1 c).1 = 1 := t1.k q1 q2
      refine kjZ_y rfl rfl 1 _ _ _ _ t1 ?_
      exact nx z1 y t1 g2 (hs2.tr a2) (Cq.tr ts hu2 b2)
theorem kx_sub (ty : kTY σ) (g : KO B σ ws nm ks) (hB : BOK B ws) (hl : 1 ≤ ws.length) {c : Nat} (hc : c ∈ CNs) : kjY kPP (kQQ Y) (d + 8) 71 0 (mjL0 6 [.ref c, .ref 53, .ref 48]) [] σ (otP B σ ws nm ks) := by
  refine kjZ_y rfl rfl 2 _ _ _ _ ty ?_
  refine (And.intro (Nat.le_of_ble_eq_true rfl) ?_)
  exact k_sub_l (σ := σ) hB hc (ws.length - 1) 1 _ _ _ nm σ (by omega) rfl ty PRE.rf g SCl.rf Cq.rf ty
end KSUB
