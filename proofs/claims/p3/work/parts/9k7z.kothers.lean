/-! PUBLISH; blocks' words; the other commands. -/
theorem kSg_3 : ∀ j, j < 105 → kSg 3 (kCmd j).2.2.2.2.2 ∈ [36, 45, 52, 8, 28, 59, 62, 86] ∧ (kSg 3 (kCmd j).2.2.2.2.2 = 59 → j = 54) := by decide +kernel
section KOTHERS
variable {Y : Nat → MethodName × ByteArray} {d : Nat} {σ u : kS} {B ws nm nm' : List (List Int32)} {ks ks' : List KC}
theorem kTY_ci (ty : kTY σ) {c : Nat} (hc : c ∈ CNs) : kTY (mjIu σ.1 c 9 0, σ.2) := by
  obtain ⟨q1, q2, -⟩ := CN_ok c hc
  have kc : (σ.2.2.2.1 c).1 = 1 := ty.k q1 q2
  obtain ⟨a1, a2, a3, a4, a5, a6, a7, a8, a9, a10⟩ := ty
  refine ⟨fun h x h1 h2 => ?_, fun h j h1 => ?_, a3, a4, a5, a6, a7, a8, a9, a10⟩
  · show mjIu σ.1 c 9 0 h x = 0 ∨ mjIu σ.1 c 9 0 h x = 1
    rw [mjIu_at]
    by_cases z : h = c ∧ x = 9
    · rw [if_pos z]; exact Or.inl rfl
    · rw [if_neg z]; exact a1 h x h1 h2
  · show (mjIu σ.1 c 9 0 h j).toInt8.toInt32 = mjIu σ.1 c 9 0 h j
    rw [mjIu_at]
    by_cases z : h = c ∧ j = 9
    · rw [if_pos z]; rfl
    · rw [if_neg z]; exact a2 h j h1
theorem kO_endBlock (ty : kTY σ) (g : KO B σ ws nm ks) (hb : BLJ σ) {c : Nat} (hc : c ∈ CNs) : kjY kPP (kQQ Y) (d + 1) 64 0 (mjL0 1 [.ref c]) [] σ (otP B σ ws nm ks) := by
  obtain ⟨bk, h1, h2⟩ := hb.1 c hc
  obtain ⟨b1, b2, b3, b4, b5, b6, b7, b8, b9⟩ := payB_ok bk h1
  obtain ⟨q1, q2, q3, -⟩ := CN_ok c hc
  have qc : ∀ c ∈ CNs, ¬ c = 53 ∧ ¬ c = 54 ∧ ¬ c = 55 ∧ (∀ p ∈ scA, ¬ p.1 = c) ∧ (∀ x ∈ [4, 5, 6, 7, 9], (c, x) ∈ OFf) := by decide +kernel
  obtain ⟨n1, n2, n3, n7, n8⟩ := qc c hc
  refine kjY_mono ty (fun r z tz xz h => ?_) (k_endBlock ty g.1 hc b1 h2)
  obtain ⟨hr, kg, t1, t3, t5, e2, eI, -, -, -, t9, -⟩ := h
  have kc : (σ.2.2.2.1 c).1 = 1 := ty.k q1 q2
  have kbk := ob_k ty b1
  have oth : ∀ h, ¬ h = c → ¬ h = bk → z.1 h = σ.1 h := fun h a1 a3 => funext fun x => eI h x (fun y => a1 y.1) (fun y => a3 y.1)
  have eF : z.2.2.1 = σ.2.2.1 := congrArg (fun t => t.2.1) e2
  have eD : z.2.2.2.1 = σ.2.2.2.1 := congrArg (fun t => t.2.2.1) e2
  refine ⟨hr, nm, PRE.rf, ⟨kg, g.2.1.same eF eD (by rw [oth 53 (fun y => n1 y.symm) (fun y => b3 y.symm)]) (oth 54 (fun y => n2 y.symm) (fun y => b4 y.symm)) (oth 55 (fun y => n3 y.symm) (fun y => b5 y.symm)) (fun g' M hg => oth g' (fun y => ?_) (fun y => ?_)), ?_⟩, fun p hp => ⟨by rw [oth p.1 (n7 p hp) (b6 p hp)], by rw [show z.2.1 = σ.2.1 from congrArg (fun t => t.1) e2], by rw [eF]⟩, ?_, CQ_end hb hc h1 h2 t1 t3 t5 e2 eI t9⟩
  · rw [y] at hg; rw [hg] at kc; exact absurd kc (show ¬ (21 : Nat) = 1 by decide)
  · rw [y] at hg; rw [hg] at kbk; exact absurd kbk (show ¬ (21 : Nat) = 0 by decide)
  · obtain ⟨b, hb, e⟩ := g.2.2
    exact ⟨b, hb, by rw [eF]; exact e⟩
  · have hF20 : ∀ p ∈ OFf, p.1 < 76 ∧ (kd0 p.1).1 < 20 := by decide +kernel
    refine Ch_ints e2 (fun h x hn => eI h x (fun y => hn ?_) (fun y => hn ?_)) (fun p hp => by rw [ty.2.2.1 p.1 (hF20 p hp).1]; exact (hF20 p hp).2)
    · rw [y.1]; exact n8 x y.2
    · rw [y.1]
      rcases List.mem_cons.mp y.2 with y | y
      · rw [y]; exact b8
      · rw [List.mem_singleton.mp y]; exact b9
theorem k_pub_l {k : Nat} (ts : kTY σ) : ∀ (f i : Nat) (x2 x5 : Int32) (l6 : Option Value) (nm' : List (List Int32)) (u : kS), i + f = 4 → x5 = nI i → kTY u → PRE nm nm' → KO B u ws nm' ks → BLJ u → SCl scA σ u → Cq σ u →
    kjY kPP (kQQ Y) (d + 8) 38 15 [some (.ref 0), some (.int (nI k)), some (.int x2), some (.ref 11), some (.int (nI 4)), some (.int x5), l6] [] u (otP B σ ws nm ks) := by
  intro f
  induction f with
  | zero =>
    intro i x2 x5 l6 nm' u hi e5 tu hp g hb su hu
    obtain ⟨b, hbn, eb⟩ := g.2.2
    have kb := ob_k tu (ANn_b b (ANb_n b hbn)).1
    refine kjZ_y rfl rfl 3 _ _ _ _ tu ?_
    refine And.intro (fun c1 => ?_) (fun c1 => ?_)
    rotate_left
    · refine absurd (show nI 4 ≤ x5 from ?_) c1
      rw [e5, nle (by decide) (by omega)]; omega
    refine kjZ_y rfl rfl 6 _ _ _ _ tu ?_
    refine (And.intro (tu.k (by decide) rfl) (And.intro (tu.k (by decide) rfl) (Exists.intro _ (And.intro eb (And.intro (Nat.le_of_ble_eq_true rfl) (And.intro (Or.inl ⟨(Nat.le_of_ble_eq_true rfl), (by assumption)⟩) (And.intro (Nat.le_of_ble_eq_true rfl) (And.intro (Nat.le_of_ble_eq_true rfl) (kjY_mono tu (fun q_ z3 t3 xx3 h_ => ?_) (kx_number tu (g.in_ tu) hbn _))))))))))
    have e6 := h_
    intro _ _
    obtain ⟨rfl, g4, a4, b4⟩ := g.wq tu e6
    refine kjZ_y rfl rfl 1 _ _ _ _ t3 ?_
    refine And.intro rfl (And.intro rfl ?_)
    exact ⟨rfl, nm', hp, g4, su.tr a4, Cq.tr ts hu b4⟩
  | succ f ih =>
    intro i x2 x5 l6 nm' u hi e5 tu hp g hb su hu
    have v5 : vp_in x5 4 := by rw [e5]; exact vp_in_nI (by omega) (by decide)
    have c5 : x5.toNatClampNeg = i := by rw [e5]; exact nI_clamp (by omega)
    have hc : 12 + 9 * i ∈ CNs := by
      have : ∀ i, i < 4 → 12 + 9 * i ∈ CNs := by decide
      exact this i (by omega)
    have ef : u.2.2.1 11 x5.toNatClampNeg = some (12 + 9 * i) := by rw [c5]; exact tu.2.2.2.2.2.2.2.2.2 i (by omega)
    generalize 12 + 9 * i = c at hc ef
    obtain ⟨q1, q2, -, q4, -⟩ := CN_ok c hc
    obtain ⟨q7, q8, q9⟩ := CN_8 c hc
    have kc : (u.2.2.2.1 c).1 = 1 := tu.k q1 q2
    have kr : u.2.2.2.1 (c + 8) = (20, 32) := tu.kl q7 q8
    obtain ⟨n, hn, en⟩ := g.1.2.2.2.2.2.2 c hc
    refine kjZ_y rfl rfl 3 _ _ _ _ tu ?_
    refine And.intro (fun c1 => ?_) (fun c1 => ?_)
    · refine absurd (show nI 4 ≤ x5 from c1) ?_
      rw [e5, nle (by decide) (by omega)]; omega
    have nx : ∀ (z : kS) (x2 : Int32), kTY z → ∀ nm2, PRE nm nm2 → KO B z ws nm2 ks → BLJ z → SCl scA σ z → Cq σ z → kjY kPP (kQQ Y) (d + 8) 38 59 [some (.ref 0), some (.int (nI k)), some (.int x2), some (.ref 11), some (.int (nI 4)), some (.int x5), some (.ref c)] [] z (otP B σ ws nm ks) := by
      intro z x2 tz nm2 pz gz bz sz hz
      refine kjZ_y rfl rfl 2 _ _ _ _ tz ?_
      exact ih (i + 1) _ _ _ nm2 z (by omega) (by rw [e5]; exact nI_1 i) tz pz gz bz sz hz
    refine kjZ_y rfl rfl 12 _ _ _ _ tu ?_
    refine (Or.inl (And.intro (Or.inl (tu.k (by decide) rfl)) (And.intro (kdw tu (by decide) rfl v5) (Exists.intro _ (And.intro ef (And.intro (Nat.le_of_ble_eq_true rfl) (And.intro (tu.k (by decide) rfl) (And.intro (by assumption) (And.intro (by assumption) (And.intro (Nat.le_of_ble_eq_true rfl) (And.intro (Or.inl ⟨(Nat.le_of_ble_eq_true rfl), (tu.k (by decide) rfl)⟩) (And.intro (Nat.le_of_ble_eq_true rfl) (And.intro (Nat.le_of_ble_eq_true rfl) (kjY_mono tu (fun q_ z1 t1 xx1 h_ => ?_) (k_findS tu g.1.2.1.1 kr hn (by decide) _ _ en)))))))))))))))
    obtain ⟨rfl, y, rfl, -⟩ := h_
    intro _ _
    refine kjZ_y rfl rfl 1 _ _ _ _ t1 ?_
    refine And.intro (fun c2 => ?_) (fun c2 => ?_)
    rotate_left
    · refine kjZ_y rfl rfl 1 _ _ _ _ t1 ?_
      exact nx z1 x2 t1 nm' hp g hb su hu
    have ko1 := ob_k t1 q4
    refine kjZ_y rfl rfl 5 _ _ _ _ t1 ?_
    refine (And.intro (by assumption) (And.intro (Nat.le_of_ble_eq_true rfl) (And.intro (Or.inl ⟨(Nat.le_of_ble_eq_true rfl), (by assumption)⟩) (And.intro (Nat.le_of_ble_eq_true rfl) (And.intro (Nat.le_of_ble_eq_true rfl) (kjY_mono t1 (fun q_ z3 t3 xx3 h_ => ?_) (kx_rowHead t1 (g.in_ t1) q9 _)))))))
    have e6 := h_
    intro _ _
    obtain ⟨rfl, g4, a4, b4⟩ := g.wq t1 e6
    have kz3 : (z3.2.2.2.1 c).1 = 1 := t3.k q1 q2
    have ko3 := ob_k t3 q4
    refine kjZ_y rfl rfl 4 _ _ _ _ t3 ?_
    refine (And.intro (by assumption) (And.intro rfl (And.intro (Nat.le_of_ble_eq_true rfl) (And.intro (Or.inl ⟨(Nat.le_of_ble_eq_true rfl), (by assumption)⟩) (And.intro (Nat.le_of_ble_eq_true rfl) (And.intro (Nat.le_of_ble_eq_true rfl) (kjY_mono t3 (fun q_ z4 t4 xx4 h_ => ?_) (kx_text t3 (g4.in_ t3) q9 (by decide)))))))))
    have e7 := h_
    intro _ _
    obtain ⟨rfl, g5, a5, b5⟩ := g4.wq t3 e7
    have kz4 : (z4.2.2.2.1 c).1 = 1 := t4.k q1 q2
    have ko4 := ob_k t4 q4
    refine kjZ_y rfl rfl 6 _ _ _ _ t4 ?_
    refine (And.intro (t4.k (by decide) rfl) (And.intro (by assumption) (And.intro (Nat.le_of_ble_eq_true rfl) (And.intro (Or.inl ⟨(Nat.le_of_ble_eq_true rfl), (t4.k (by decide) rfl)⟩) (And.intro (Nat.le_of_ble_eq_true rfl) (And.intro (Nat.le_of_ble_eq_true rfl) (kjY_mono t4 (fun q_ z5 t5 xx5 h_ => ?_) (kx_copyArg t4 (g5.in_ t4) q9 _))))))))
    have e8 := h_
    intro _ _
    obtain ⟨rfl, g6, a6, b6⟩ := g5.wq t4 e8
    have kz5 : (z5.2.2.2.1 c).1 = 1 := t5.k q1 q2
    have ko5 := ob_k t5 q4
    refine kjZ_y rfl rfl 6 _ _ _ _ t5 ?_
    refine (And.intro (t5.k (by decide) rfl) (And.intro (by assumption) (And.intro (Nat.le_of_ble_eq_true rfl) (And.intro (Or.inl ⟨(Nat.le_of_ble_eq_true rfl), (t5.k (by decide) rfl)⟩) (And.intro (Nat.le_of_ble_eq_true rfl) (And.intro (Nat.le_of_ble_eq_true rfl) (kjY_mono t5 (fun q_ z6 t6 xx6 h_ => ?_) (kx_copyArg t5 (g6.in_ t5) q9 _))))))))
    have e9 := h_
    intro _ _
    obtain ⟨rfl, g7, a7, b7⟩ := g6.wq t5 e9
    have kz6 : (z6.2.2.2.1 c).1 = 1 := t6.k q1 q2
    have ko6 := ob_k t6 q4
    have s6 := (((su.tr a4).tr a5).tr a6).tr a7
    have h6 := Cq.tr ts (Cq.tr ts (Cq.tr ts (Cq.tr ts hu b4) b5) b6) b7
    have hb6 : BLJ z6 := (((hb.frq t1 b4).frq t3 b5).frq t4 b6).frq t5 b7
    refine kjZ_y rfl rfl 4 _ _ _ _ t6 ?_
    refine (And.intro (by assumption) (And.intro (by assumption) (And.intro (fun c3 => ?_) (fun c3 => ?_))))
    · exact nx z6 _ t6 nm' hp g7 hb6 s6 h6
    refine kjZ_y rfl rfl 2 _ _ _ _ t6 ?_
    refine (And.intro (Nat.le_of_ble_eq_true rfl) (And.intro (Or.inl ⟨(Nat.le_of_ble_eq_true rfl), (by assumption)⟩) (And.intro (Nat.le_of_ble_eq_true rfl) (And.intro (Nat.le_of_ble_eq_true rfl) (kjY_mono t6 (fun q_ z7 t7 xx7 h_ => ?_) (kO_close t6 g7 hb6 hc))))))
    obtain ⟨rfl, nm3, p3, g8, a8, b8⟩ := h_
    intro _ _
    exact nx z7 _ t7 nm3 (hp.tr p3) g8 (hb6.frq t6 b8) (s6.tr a8) (Cq.tr ts h6 b8)
theorem kx_publish (ty : kTY σ) (g : KO B σ ws nm ks) (hb : BLJ σ) (hB : BOK B ws) {v : List Int32} (hv : ws[1]? = some v) : kjY kPP (kQQ Y) (d + 8) 38 0 (mjL0 7 [.ref 0]) [] σ (otP B σ ws nm ks) := by
  refine kjZ_y rfl rfl 4 _ _ _ _ ty ?_
  refine (And.intro (ty.k (by decide) rfl) (And.intro (Nat.le_of_ble_eq_true rfl) (And.intro (Or.inl ⟨(Nat.le_of_ble_eq_true rfl), (ty.k (by decide) rfl)⟩) (And.intro (Nat.le_of_ble_eq_true rfl) (And.intro (Nat.le_of_ble_eq_true rfl) (kjY_mono ty (fun q_ u1 ty1 xu1 h_ => ?_) (kx_id ty (g.in_ ty) hB hv _ rfl)))))))
  obtain ⟨k, nm2, rfl, p2, p3, w1, s1⟩ := h_
  intro _ _
  obtain ⟨g1, h1⟩ := g.stq ty w1
  have k11' : u1.2.2.2.1 11 = (24, 4) := ty1.kl (h := 11) (by decide) rfl
  refine kjZ_y rfl rfl 11 _ _ _ _ ty1 ?_
  refine (And.intro (Nat.le_of_ble_eq_true rfl) (And.intro (Nat.le_of_ble_eq_true rfl) (And.intro (ty1.k (by decide) rfl) (And.intro (Nat.le_of_ble_eq_true rfl) (Or.inl (And.intro (kdr ty1 (by decide) rfl) (And.intro (Nat.le_of_ble_eq_true rfl) (And.intro (Nat.le_of_ble_eq_true rfl) ?_))))))))
  have go : ∀ x4 : Int32, x4 = nI 4 → kjY kPP (kQQ Y) (d + 8) 38 15 [some (.ref 0), some (.int (nI k)), some (.int (Int32.ofInt 0)), some (.ref 11), some (.int x4), some (.int (Int32.ofInt 0)), none] [] u1 (otP B σ ws nm ks) := by
    intro x4 e4
    subst e4
    exact k_pub_l (σ := σ) ty 4 0 _ _ _ nm2 u1 rfl rfl ty1 p3 g1 (hb.frq ty h1) s1 h1
  exact go _ (by show nI (u1.2.2.2.1 11).2 = _; rw [k11'])
theorem kx_blockWord (ty : kTY σ) (g : KO B σ ws nm ks) (hb : BLJ σ) (hB : BOK B ws) (hl : 1 ≤ ws.length) {c j : Nat} (hc : c ∈ CNs) (hj : j < 105) : kjY kPP (kQQ Y) (d + 9) 37 0 (mjL0 3 [.ref 0, .ref (1000000 + j), .ref c]) [] σ (otP B σ ws nm ks) := by
  obtain ⟨q1, q2, -⟩ := CN_ok c hc
  have kc : (σ.2.2.2.1 c).1 = 1 := ty.k q1 q2
  have kj : kCm (1000000 + j) := ⟨j, hj, rfl⟩
  -- an answer of one line
  have line : ∀ (z : kS) (nm2 : List (List Int32)) (i t : Nat), kTY z → PRE nm nm2 → KO B z ws nm2 ks → SCl scA σ z → Cq σ z → (i = 13 ∨ i = 34 ∨ i = 49) → kjY kPP (kQQ Y) (d + 9) 37 i [some (.ref 0), some (.ref (1000000 + j)), some (.ref c)] [] z (otP B σ ws nm ks) := by
    intro z nm2 i t tz pz gz sz hz hi
    obtain ⟨b, hbn, eb⟩ := gz.2.2
    have kb := ob_k tz (ANn_b b (ANb_n b hbn)).1
    have kz : (z.2.2.2.1 c).1 = 1 := tz.k q1 q2
    rcases hi with rfl | rfl | rfl
    · refine kjZ_y rfl rfl 6 _ _ _ _ tz ?_
      refine (And.intro (tz.k (by decide) rfl) (And.intro (tz.k (by decide) rfl) (Exists.intro _ (And.intro eb (And.intro rfl (And.intro (Nat.le_of_ble_eq_true rfl) (And.intro (Or.inl ⟨(Nat.le_of_ble_eq_true rfl), (by assumption)⟩) (And.intro (Nat.le_of_ble_eq_true rfl) (And.intro (Nat.le_of_ble_eq_true rfl) (kjY_mono tz (fun q_ z3 t3 xx3 h_ => ?_) (kx_line tz (gz.in_ tz) hbn _ (by decide))))))))))))
      have e6 := h_
      intro _ _
      obtain ⟨rfl, g4, a4, b4⟩ := gz.wq tz e6
      refine kjZ_y rfl rfl 2 _ _ _ _ t3 ?_
      refine And.intro rfl (And.intro rfl ?_)
      exact ⟨rfl, nm2, pz, g4, sz.tr a4, Cq.tr ty hz b4⟩
    · refine kjZ_y rfl rfl 6 _ _ _ _ tz ?_
      refine (And.intro (tz.k (by decide) rfl) (And.intro (tz.k (by decide) rfl) (Exists.intro _ (And.intro eb (And.intro rfl (And.intro (Nat.le_of_ble_eq_true rfl) (And.intro (Or.inl ⟨(Nat.le_of_ble_eq_true rfl), (by assumption)⟩) (And.intro (Nat.le_of_ble_eq_true rfl) (And.intro (Nat.le_of_ble_eq_true rfl) (kjY_mono tz (fun q_ z3 t3 xx3 h_ => ?_) (kx_line tz (gz.in_ tz) hbn _ (by decide))))))))))))
      have e6 := h_
      intro _ _
      obtain ⟨rfl, g4, a4, b4⟩ := gz.wq tz e6
      refine kjZ_y rfl rfl 2 _ _ _ _ t3 ?_
      refine And.intro rfl (And.intro rfl ?_)
      exact ⟨rfl, nm2, pz, g4, sz.tr a4, Cq.tr ty hz b4⟩
    · refine kjZ_y rfl rfl 6 _ _ _ _ tz ?_
      refine (And.intro (tz.k (by decide) rfl) (And.intro (tz.k (by decide) rfl) (Exists.intro _ (And.intro eb (And.intro rfl (And.intro (Nat.le_of_ble_eq_true rfl) (And.intro (Or.inl ⟨(Nat.le_of_ble_eq_true rfl), (by assumption)⟩) (And.intro (Nat.le_of_ble_eq_true rfl) (And.intro (Nat.le_of_ble_eq_true rfl) (kjY_mono tz (fun q_ z3 t3 xx3 h_ => ?_) (kx_line tz (gz.in_ tz) hbn _ (by decide))))))))))))
      have e6 := h_
      intro _ _
      obtain ⟨rfl, g4, a4, b4⟩ := gz.wq tz e6
      refine kjZ_y rfl rfl 2 _ _ _ _ t3 ?_
      refine And.intro rfl (And.intro rfl ?_)
      exact ⟨rfl, nm2, pz, g4, sz.tr a4, Cq.tr ty hz b4⟩
  have s56 : kjY kPP (kQQ Y) (d + 9) 37 56 [some (.ref 0), some (.ref (1000000 + j)), some (.ref c)] [] σ (otP B σ ws nm ks) := by
    refine kjZ_y rfl rfl 4 _ _ _ _ ty ?_
    refine (And.intro (ty.k (by decide) rfl) (And.intro rfl (And.intro (Nat.le_of_ble_eq_true rfl) (And.intro (Or.inl ⟨(Nat.le_of_ble_eq_true rfl), (ty.k (by decide) rfl)⟩) (And.intro (Nat.le_of_ble_eq_true rfl) (And.intro (Nat.le_of_ble_eq_true rfl) (kjY_mono ty (fun q_ z3 t3 xx3 h_ => ?_) (kx_refuse ty (g.in_ ty) (by decide)))))))))
    have e6 := h_
    intro _ _
    obtain ⟨rfl, g4, a4, b4⟩ := g.wq ty e6
    refine kjZ_y rfl rfl 1 _ _ _ _ t3 ?_
    refine And.intro rfl (And.intro rfl ?_)
    exact ⟨rfl, nm, PRE.rf, g4, a4, b4⟩
  refine kjZ_y rfl rfl 3 _ _ _ _ ty ?_
  refine And.intro ⟨(by assumption), ⟨88, by decide, rfl⟩, Or.inr rfl⟩ (And.intro (fun c1 => ?_) (fun c1 => ?_))
  rotate_left
  · refine kjZ_y rfl rfl 4 _ _ _ _ ty ?_
    refine (And.intro (ty.k (by decide) rfl) (And.intro (Nat.le_of_ble_eq_true rfl) (And.intro (Or.inl ⟨(Nat.le_of_ble_eq_true rfl), (by assumption)⟩) (And.intro (Nat.le_of_ble_eq_true rfl) (And.intro (Nat.le_of_ble_eq_true rfl) (kjY_mono ty (fun q_ z3 t3 xx3 h_ => ?_) (kx_watch (d := d) ty g hB hl hc)))))))
    have q3 := h_
    intro _ _
    obtain ⟨rfl, -⟩ := id q3
    refine kjZ_y rfl rfl 2 _ _ _ _ t3 ?_
    refine And.intro rfl (And.intro rfl ?_)
    exact q3
  refine kjZ_y rfl rfl 3 _ _ _ _ ty ?_
  refine And.intro ⟨(by assumption), ⟨87, by decide, rfl⟩, Or.inr rfl⟩ (And.intro (fun c2 => ?_) (fun c2 => ?_))
  rotate_left
  · refine kjZ_y rfl rfl 2 _ _ _ _ ty ?_
    refine (And.intro (Nat.le_of_ble_eq_true rfl) (And.intro (Or.inl ⟨(Nat.le_of_ble_eq_true rfl), (by assumption)⟩) (And.intro (Nat.le_of_ble_eq_true rfl) (And.intro (Nat.le_of_ble_eq_true rfl) (kjY_mono ty (fun q_ z3 t3 xx3 h_ => ?_) (k_unwatch ty g.1 hc))))))
    obtain ⟨rfl, -, -, e3⟩ := h_
    intro _ _
    have go : ∀ y, kTY y → y = (mjIu σ.1 c 9 0, σ.2) → KO B y ws nm ks ∧ SCl scA σ y ∧ Cq σ y := fun y tyy ey => g.ciq ty hc (Or.inr ⟨0, rfl, Or.inl ⟨rfl, by decide⟩⟩) ey
    have tw : kTY (mjIu σ.1 c 9 0, σ.2) := kTY_ci ty hc
    obtain ⟨g1, a1, b1⟩ := go _ tw rfl
    obtain ⟨g2, a2, b2⟩ := g1.ciq tw hc (x := 6) (v := 0) (Or.inl (by decide)) (show z3 = (mjIu (mjIu σ.1 c 9 0) c 6 0, σ.2) from e3)
    exact line z3 nm 13 0 t3 PRE.rf g2 (a1.tr a2) (Cq.tr ty b1 b2) (Or.inl rfl)
  refine kjZ_y rfl rfl 3 _ _ _ _ ty ?_
  refine And.intro ⟨(by assumption), ⟨47, by decide, rfl⟩, Or.inr rfl⟩ (And.intro (fun c3 => ?_) (fun c3 => ?_))
  rotate_left
  · refine kjZ_y rfl rfl 3 _ _ _ _ ty ?_
    refine (And.intro (by assumption) (And.intro (fun c4 => ?_) (fun c4 => ?_)))
    · refine kjZ_y rfl rfl 3 _ _ _ _ ty ?_
      refine (And.intro (by assumption) (And.intro (Or.inr ⟨rfl, Or.inr rfl⟩) (fun ty' => ?_)))
      have go : ∀ z, kTY z → z = (mjIu σ.1 c 4 (Int32.ofInt 1), σ.2) → kjY kPP (kQQ Y) (d + 9) 37 34 [some (.ref 0), some (.ref (1000000 + j)), some (.ref c)] [] z (otP B σ ws nm ks) := by
        intro z tz ez
        obtain ⟨g2, a2, b2⟩ := g.ciq ty hc (x := 4) (v := Int32.ofInt 1) (Or.inl (by decide)) ez
        exact line z nm 34 0 tz PRE.rf g2 a2 b2 (Or.inr (Or.inl rfl))
      exact go _ ty' rfl
    · refine kjZ_y rfl rfl 4 _ _ _ _ ty ?_
      refine (And.intro (ty.k (by decide) rfl) (And.intro rfl (And.intro (Nat.le_of_ble_eq_true rfl) (And.intro (Or.inl ⟨(Nat.le_of_ble_eq_true rfl), (ty.k (by decide) rfl)⟩) (And.intro (Nat.le_of_ble_eq_true rfl) (And.intro (Nat.le_of_ble_eq_true rfl) (kjY_mono ty (fun q_ z3 t3 xx3 h_ => ?_) (kx_refuse ty (g.in_ ty) (by decide)))))))))
      have e6 := h_
      intro _ _
      obtain ⟨rfl, g4, a4, b4⟩ := g.wq ty e6
      refine kjZ_y rfl rfl 2 _ _ _ _ t3 ?_
      refine And.intro rfl (And.intro rfl ?_)
      exact ⟨rfl, nm, PRE.rf, g4, a4, b4⟩
  refine kjZ_y rfl rfl 3 _ _ _ _ ty ?_
  refine (And.intro (by assumption) (And.intro (fun c4 => ?_) (fun c4 => ?_)))
  · exact s56
  refine kjZ_y rfl rfl 3 _ _ _ _ ty ?_
  refine And.intro ⟨(by assumption), ⟨6, by decide, rfl⟩, Or.inr rfl⟩ (And.intro (fun c5 => ?_) (fun c5 => ?_))
  · exact s56
  refine kjZ_y rfl rfl 2 _ _ _ _ ty ?_
  refine (And.intro (Nat.le_of_ble_eq_true rfl) (And.intro (Or.inl ⟨(Nat.le_of_ble_eq_true rfl), (by assumption)⟩) (And.intro (Nat.le_of_ble_eq_true rfl) (And.intro (Nat.le_of_ble_eq_true rfl) (kjY_mono ty (fun q_ z3 t3 xx3 h_ => ?_) (kO_endBlock ty g hb hc))))))
  obtain ⟨rfl, nm3, p3, g8, a8, b8⟩ := h_
  intro _ _
  exact line z3 nm3 49 0 t3 p3 g8 a8 b8 (Or.inr (Or.inr rfl))
end KOTHERS
