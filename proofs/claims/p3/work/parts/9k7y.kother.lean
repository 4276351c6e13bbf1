/-! UNSUBSCRIBE, PUBLISH; a connection closes within a command. -/
section KOTHER
variable {Y : Nat → MethodName × ByteArray} {d : Nat} {σ u : kS} {B ws nm nm' : List (List Int32)} {ks ks' : List KC}
theorem BLK.fr (h : BLK σ) (ty : kTY σ) (ch : Ch true OFf OFo σ u) : BLK u := fun c hc => by
  obtain ⟨bk, h1, h2⟩ := h c hc
  have q : ∀ c ∈ CNs, c < 76 ∧ (kd0 c).1 = 1 ∧ ¬ (c, 3) ∈ OFf := by decide +kernel
  exact ⟨bk, h1, by rw [(ch.fld ty (q c hc).1 (q c hc).2.1 (by decide) (q c hc).2.2).2.2]; exact h2⟩
theorem BLJ.fr (h : BLJ σ) (ty : kTY σ) (ch : Ch true OFf OFo σ u) : BLJ u := by
  have q : ∀ c ∈ CNs, c < 76 ∧ (kd0 c).1 = 1 ∧ ¬ (c, 3) ∈ OFf := by decide +kernel
  have e : ∀ c ∈ CNs, u.2.2.1 c 3 = σ.2.2.1 c 3 := fun c hc => (ch.fld ty (q c hc).1 (q c hc).2.1 (by decide) (q c hc).2.2).2.2
  exact ⟨h.1.fr ty ch, fun c hc c' hc' z => h.2 c hc c' hc' (by rw [e c hc, e c' hc'] at z; exact z)⟩
theorem BLJ.frq (h : BLJ σ) (ty : kTY σ) (ch : Cq σ u) : BLJ u := h.fr ty ch.1
/-- from ints alone -/
theorem Ch_ints {fs os : List (Nat × Nat)} (e2 : u.2 = σ.2) (hI : ∀ h x, (h, x) ∉ fs → u.1 h x = σ.1 h x) (hfs : ∀ p ∈ fs, (σ.2.2.2.1 p.1).1 < 20) : Ch true fs os σ u := by
  have eF : u.2.2.1 = σ.2.2.1 := congrArg (fun t => t.2.1) e2
  have eL : u.2.1 = σ.2.1 := congrArg (fun t => t.1) e2
  have eD : u.2.2.2.1 = σ.2.2.2.1 := congrArg (fun t => t.2.2.1) e2
  refine ⟨⟨by rw [e2]; exact Nat.le_refl _, fun h _ => by rw [eD], by rw [e2], by rw [e2]; exact Nat.le_refl _⟩, fun h x _ _ hn => ⟨hI h x hn, by rw [eL], by rw [eF]⟩, fun g h1 _ _ => ⟨funext fun x => hI g x (fun z => ?_), by rw [eL], by rw [eF]⟩, fun p _ g _ => Or.inl (by rw [eF])⟩
  have := hfs _ z
  have this : (σ.2.2.2.1 g).1 < 20 := this
  omega
theorem payB_ok : ∀ bk ∈ payB, bk ∈ OWb ∧ bk ∈ OFb ∧ ¬ bk = 53 ∧ ¬ bk = 54 ∧ ¬ bk = 55 ∧ (∀ p ∈ scA, ¬ p.1 = bk) ∧ (∀ c ∈ CNs, ¬ bk = c + 1 ∧ ¬ bk = c) ∧ (bk, 2) ∈ OFf ∧ (bk, 3) ∈ OFf := by decide +kernel
theorem kO_close (ty : kTY σ) (g : KO B σ ws nm ks) (hb : BLJ σ) {c : Nat} (hc : c ∈ CNs) : kjY kPP (kQQ Y) (d + 2) 63 0 (mjL0 1 [.ref c]) [] σ (otP B σ ws nm ks) := by
  obtain ⟨bk, h1, h2⟩ := hb.1 c hc
  obtain ⟨b1, b2, b3, b4, b5, b6, b7, b8, b9⟩ := payB_ok bk h1
  obtain ⟨q1, q2, q3, -⟩ := CN_ok c hc
  have qc : ∀ c ∈ CNs, ¬ c = 53 ∧ ¬ c = 54 ∧ ¬ c = 55 ∧ ¬ c + 1 = 53 ∧ ¬ c + 1 = 54 ∧ ¬ c + 1 = 55 ∧ (∀ p ∈ scA, ¬ p.1 = c ∧ ¬ p.1 = c + 1) ∧ (∀ x ∈ [0, 4, 5, 6, 7, 9, 11], (c, x) ∈ OFf) ∧ (∀ x ∈ [2, 3], (c + 1, x) ∈ OFf) := by decide +kernel
  obtain ⟨n1, n2, n3, n4, n5, n6, n7, n8, n9⟩ := qc c hc
  refine kjY_mono ty (fun r z tz xz h => ?_) (k_close ty g.1 hc b1 (b7 c hc).1 h2)
  obtain ⟨hr, kg, t1, t2, t3, t4, t5, t6, t7, -, t9⟩ := h
  obtain ⟨e2, eI⟩ := id t6
  have kc : (σ.2.2.2.1 c).1 = 1 := ty.k q1 q2
  have kin := ob_k ty q3
  have kbk := ob_k ty b1
  have oth : ∀ h, ¬ h = c → ¬ h = c + 1 → ¬ h = bk → z.1 h = σ.1 h := fun h a1 a2 a3 => funext fun x => eI h x (fun y => a1 y.1) (fun y => a2 y.1) (fun y => a3 y.1)
  have eF : z.2.2.1 = σ.2.2.1 := congrArg (fun t => t.2.1) e2
  have eD : z.2.2.2.1 = σ.2.2.2.1 := congrArg (fun t => t.2.2.1) e2
  refine ⟨hr, nm, PRE.rf, ⟨kg, g.2.1.same eF eD (by rw [oth 53 (fun y => n1 y.symm) (fun y => n4 y.symm) (fun y => b3 y.symm)]) (oth 54 (fun y => n2 y.symm) (fun y => n5 y.symm) (fun y => b4 y.symm)) (oth 55 (fun y => n3 y.symm) (fun y => n6 y.symm) (fun y => b5 y.symm)) (fun g' M hg => oth g' (fun y => ?_) (fun y => ?_) (fun y => ?_)), ?_⟩, fun p hp => ⟨by rw [oth p.1 (n7 p hp).1 (n7 p hp).2 (b6 p hp)], by rw [show z.2.1 = σ.2.1 from congrArg (fun t => t.1) e2], by rw [eF]⟩, ?_, CQ_close hb hc h1 h2 t1 t2 t3 t4 t5 t6 t7 t9⟩
  · rw [y] at hg; rw [hg] at kc; exact absurd kc (show ¬ (21 : Nat) = 1 by decide)
  · rw [y] at hg; rw [hg] at kin; exact absurd kin (show ¬ (21 : Nat) = 0 by decide)
  · rw [y] at hg; rw [hg] at kbk; exact absurd kbk (show ¬ (21 : Nat) = 0 by decide)
  · obtain ⟨b, hb, e⟩ := g.2.2
    exact ⟨b, hb, by rw [eF]; exact e⟩
  · have hF20 : ∀ p ∈ OFf, p.1 < 76 ∧ (kd0 p.1).1 < 20 := by decide +kernel
    refine Ch_ints e2 (fun h x hn => eI h x (fun y => hn ?_) (fun y => hn ?_) (fun y => hn ?_)) (fun p hp => by rw [ty.2.2.1 p.1 (hF20 p hp).1]; exact (hF20 p hp).2)
    · rw [y.1]; exact n8 x y.2
    · rw [y.1]; exact n9 x y.2
    · rw [y.1]
      rcases List.mem_cons.mp y.2 with y | y
      · rw [y]; exact b8
      · rw [List.mem_singleton.mp y]; exact b9
theorem k_unsub_l (hB : BOK B ws) {c : Nat} (hc : c ∈ CNs) {n0 : Nat} (hn0 : n0 ≤ 1024) (x3 : Int32) (e3 : x3 = nI n0) (hw : 1 < ws.length → n0 + 1 = ws.length)
    (hK : ∀ (u : kS) (nm' : List (List Int32)) (x4 : Int32) (l5 : Option Value), kTY u → PRE nm nm' → KO B u ws nm' ks → SCl scA σ u → Cq σ u → kjY kPP (kQQ Y) (d + 8) 72 62 [some (.ref c), some (.ref 53), some (.ref 48), some (.int x3), some (.int x4), l5] [] u (otP B σ ws nm ks)) :
    ∀ (f i : Nat) (x4 : Int32) (l5 : Option Value) (nm' : List (List Int32)) (u : kS), i + f = n0 → x4 = nI i → kTY u → PRE nm nm' → KO B u ws nm' ks → SCl scA σ u → Cq σ u → kTY σ →
    kjY kPP (kQQ Y) (d + 8) 72 14 [some (.ref c), some (.ref 53), some (.ref 48), some (.int x3), some (.int x4), l5] [] u (otP B σ ws nm ks) := by
  obtain ⟨q1, q2, -, q4, -⟩ := CN_ok c hc
  obtain ⟨q7, q8, q9⟩ := CN_8 c hc
  intro f
  induction f with
  | zero =>
    intro i x4 l5 nm' u hi e4 tu hp g su hu ts
    refine kjZ_y rfl rfl 3 _ _ _ _ tu ?_
    refine And.intro (fun c1 => ?_) (fun c1 => ?_)
    rotate_left
    · refine absurd (show x3 ≤ x4 from ?_) c1
      rw [e3, e4, nle (by omega) (by omega)]; omega
    exact hK u nm' x4 l5 tu hp g su hu
  | succ f ih =>
    intro i x4 l5 nm' u hi e4 tu hp g su hu ts
    have kc : (u.2.2.2.1 c).1 = 1 := tu.k q1 q2
    obtain ⟨-, -, -, -, ⟨h4, h1024⟩, -⟩ := g.2.1
    refine kjZ_y rfl rfl 3 _ _ _ _ tu ?_
    refine And.intro (fun c1 => ?_) (fun c1 => ?_)
    · refine absurd (show x3 ≤ x4 from c1) ?_
      rw [e3, e4, nle (by omega) (by omega)]; omega
    -- with the channel's number on the stack
    have s31 : ∀ (z : kS) (nm2 : List (List Int32)) (x5 : Int32), kTY z → PRE nm nm2 → KO B z ws nm2 ks → SCl scA σ z → Cq σ z → kjY kPP (kQQ Y) (d + 8) 72 31 [some (.ref c), some (.ref 53), some (.ref 48), some (.int x3), some (.int x4), l5] [.int x5] z (otP B σ ws nm ks) := by
      intro z nm2 x5 tz pz gz sz hz
      have kz : (z.2.2.2.1 c).1 = 1 := tz.k q1 q2
      have kr : z.2.2.2.1 (c + 8) = (20, 32) := tz.kl q7 q8
      obtain ⟨n, hn, en⟩ := gz.1.2.2.2.2.2.2 c hc
      refine kjZ_y rfl rfl 9 _ _ _ _ tz ?_
      refine (And.intro (Nat.le_of_ble_eq_true rfl) (And.intro (by assumption) (And.intro (by assumption) (And.intro (Nat.le_of_ble_eq_true rfl) (And.intro (Or.inl ⟨(Nat.le_of_ble_eq_true rfl), (tz.k (by decide) rfl)⟩) (And.intro (Nat.le_of_ble_eq_true rfl) (And.intro (Nat.le_of_ble_eq_true rfl) (kjY_mono tz (fun q_ z1 t1 xx1 h_ => ?_) (k_findS tz gz.1.2.1.1 kr hn (by decide) _ _ en)))))))))
      obtain ⟨rfl, y, rfl, -⟩ := h_
      intro _ _
      refine kjZ_y rfl rfl 1 _ _ _ _ t1 ?_
      refine (And.intro (Nat.le_of_ble_eq_true rfl) (And.intro (Or.inl ⟨(Nat.le_of_ble_eq_true rfl), (by assumption)⟩) (And.intro (Nat.le_of_ble_eq_true rfl) (And.intro (Nat.le_of_ble_eq_true rfl) (kjY_mono t1 (fun q_ z2 t2 xx2 h_ => ?_) (kx_leave t1 gz hc y))))))
      obtain ⟨rfl, nm3, p3, g3, a3, b3⟩ := h_
      intro _ _
      have kz2 : (z2.2.2.2.1 c).1 = 1 := t2.k q1 q2
      have ko2 := ob_k t2 q4
      refine kjZ_y rfl rfl 4 _ _ _ _ t2 ?_
      refine (And.intro (by assumption) (And.intro (Nat.le_of_ble_eq_true rfl) (And.intro (Or.inl ⟨(Nat.le_of_ble_eq_true rfl), (by assumption)⟩) (And.intro (Nat.le_of_ble_eq_true rfl) (And.intro (Nat.le_of_ble_eq_true rfl) (kjY_mono t2 (fun q_ z3 t3 xx3 h_ => ?_) (kx_rowHead t2 (g3.in_ t2) q9 _)))))))
      have e5 := h_
      intro _ _
      obtain ⟨rfl, g4, a4, b4⟩ := g3.wq t2 e5
      have kz3 : (z3.2.2.2.1 c).1 = 1 := t3.k q1 q2
      have ko3 := ob_k t3 q4
      refine kjZ_y rfl rfl 4 _ _ _ _ t3 ?_
      refine (And.intro (by assumption) (And.intro rfl (And.intro (Nat.le_of_ble_eq_true rfl) (And.intro (Or.inl ⟨(Nat.le_of_ble_eq_true rfl), (by assumption)⟩) (And.intro (Nat.le_of_ble_eq_true rfl) (And.intro (Nat.le_of_ble_eq_true rfl) (kjY_mono t3 (fun q_ z4 t4 xx4 h_ => ?_) (kx_text t3 (g4.in_ t3) q9 (by decide)))))))))
      have e6 := h_
      intro _ _
      obtain ⟨rfl, g5, a5, b5⟩ := g4.wq t3 e6
      have kz4 : (z4.2.2.2.1 c).1 = 1 := t4.k q1 q2
      have ko4 := ob_k t4 q4
      refine kjZ_y rfl rfl 5 _ _ _ _ t4 ?_
      refine (And.intro (by assumption) (And.intro (Nat.le_of_ble_eq_true rfl) (And.intro (Or.inl ⟨(Nat.le_of_ble_eq_true rfl), (t4.k (by decide) rfl)⟩) (And.intro (Nat.le_of_ble_eq_true rfl) (And.intro (Nat.le_of_ble_eq_true rfl) (kjY_mono t4 (fun q_ z5 t5 xx5 h_ => ?_) (kx_copyWord t4 (g5.in_ t4) q9 _)))))))
      have e7 := h_
      intro _ _
      obtain ⟨rfl, g6, a6, b6⟩ := g5.wq t4 e7
      have kz5 : (z5.2.2.2.1 c).1 = 1 := t5.k q1 q2
      have ko5 := ob_k t5 q4
      refine kjZ_y rfl rfl 6 _ _ _ _ t5 ?_
      refine (And.intro (by assumption) (And.intro (by assumption) (And.intro (Nat.le_of_ble_eq_true rfl) (And.intro (Or.inl ⟨(Nat.le_of_ble_eq_true rfl), (by assumption)⟩) (And.intro (Nat.le_of_ble_eq_true rfl) (And.intro (Nat.le_of_ble_eq_true rfl) (kjY_mono t5 (fun q_ z6 t6 xx6 h_ => ?_) (kx_number t5 (g6.in_ t5) q9 _))))))))
      have e8 := h_
      intro _ _
      obtain ⟨rfl, g7, a7, b7⟩ := g6.wq t5 e8
      refine kjZ_y rfl rfl 2 _ _ _ _ t6 ?_
      exact ih (i + 1) _ _ nm3 z6 (by omega) (by rw [e4]; exact nI_1 i) t6 (pz.tr p3) g7 (((((sz.tr a3).tr a4).tr a5).tr a6).tr a7) (Cq.tr ts (Cq.tr ts (Cq.tr ts (Cq.tr ts (Cq.tr ts hz b3) b4) b5) b6) b7) ts
    refine kjZ_y rfl rfl 4 _ _ _ _ tu ?_
    refine (And.intro (tu.k (by decide) rfl) (And.intro (fun c2 => ?_) (fun c2 => ?_)))
    · have kr : u.2.2.2.1 (c + 8) = (20, 32) := tu.kl q7 q8
      have v0 : vp_in (Int32.ofInt 0) 32 := vp_in_nI (n := 0) (N := 32) (by decide) (by decide)
      refine kjZ_y rfl rfl 4 _ _ _ _ tu ?_
      refine (And.intro (by assumption) (Or.inl (And.intro (kdk kr) (And.intro (kdv kr v0) ?_))))
      exact s31 u nm' _ tu hp g su hu
    · have c2 : ¬ u.1 53 4 ≤ nI 1 := c2
      rw [h4, nle (by omega) (by decide)] at c2
      have hw2 := hw (by omega)
      have hv := List.getElem?_eq_getElem (show i + 1 < ws.length by omega)
      generalize ws[i + 1] = v at hv
      refine kjZ_y rfl rfl 5 _ _ _ _ tu ?_
      refine (And.intro (Nat.le_of_ble_eq_true rfl) (And.intro (Or.inl ⟨(Nat.le_of_ble_eq_true rfl), (tu.k (by decide) rfl)⟩) (And.intro (Nat.le_of_ble_eq_true rfl) (And.intro (Nat.le_of_ble_eq_true rfl) (kjY_mono tu (fun q_ u1 ty1 xu1 h_ => ?_) (kx_id tu (g.in_ tu) hB hv _ (by rw [e4]; exact nI_1 i)))))))
      obtain ⟨k, nm2, rfl, p2, p3, w1, s1⟩ := h_
      intro _ _
      obtain ⟨g1, h1⟩ := g.stq tu w1
      have kc1 : (u1.2.2.2.1 c).1 = 1 := ty1.k q1 q2
      refine kjZ_y rfl rfl 1 _ _ _ _ ty1 ?_
      exact s31 u1 nm2 _ ty1 (hp.tr p3) g1 (su.tr s1) (Cq.tr ts hu h1)
theorem kx_unsub (ty : kTY σ) (g : KO B σ ws nm ks) (hB : BOK B ws) {c : Nat} (hc : c ∈ CNs) : kjY kPP (kQQ Y) (d + 8) 72 0 (mjL0 6 [.ref c, .ref 53, .ref 48]) [] σ (otP B σ ws nm ks) := by
  obtain ⟨q1, q2, -, q4, -⟩ := CN_ok c hc
  obtain ⟨q7, q8, q9⟩ := CN_8 c hc
  have kc : (σ.2.2.2.1 c).1 = 1 := ty.k q1 q2
  obtain ⟨-, -, -, -, ⟨h4, h1024⟩, -⟩ := g.2.1
  have s11 : ∀ (n0 : Nat) (x3 : Int32), x3 = nI n0 → n0 ≤ 1024 → (1 < ws.length → n0 + 1 = ws.length) → kjY kPP (kQQ Y) (d + 8) 72 11 [some (.ref c), some (.ref 53), some (.ref 48), none, none, none] [.int x3] σ (otP B σ ws nm ks) := by
    intro n0 x3 e3 hn0 hw
    refine kjZ_y rfl rfl 3 _ _ _ _ ty ?_
    refine (And.intro (Nat.le_of_ble_eq_true rfl) (And.intro (Nat.le_of_ble_eq_true rfl) ?_))
    refine k_unsub_l (σ := σ) hB hc hn0 x3 e3 hw (fun u nm' x4 l5 tu hp g1 su hu => ?_) n0 0 _ _ nm σ (Nat.zero_add _) rfl ty PRE.rf g SCl.rf Cq.rf ty
    have kcu : (u.2.2.2.1 c).1 = 1 := tu.k q1 q2
    refine kjZ_y rfl rfl 2 _ _ _ _ tu ?_
    refine And.intro (fun c1 => ?_) (fun c1 => ?_)
    · refine kjZ_y rfl rfl 1 _ _ _ _ tu ?_
      refine And.intro rfl (And.intro rfl ?_)
      exact ⟨rfl, nm', hp, g1, su, hu⟩
    have ko2 := ob_k tu q4
    refine kjZ_y rfl rfl 4 _ _ _ _ tu ?_
    refine (And.intro (by assumption) (And.intro (Nat.le_of_ble_eq_true rfl) (And.intro (Or.inl ⟨(Nat.le_of_ble_eq_true rfl), (by assumption)⟩) (And.intro (Nat.le_of_ble_eq_true rfl) (And.intro (Nat.le_of_ble_eq_true rfl) (kjY_mono tu (fun q_ z3 t3 xx3 h_ => ?_) (kx_rowHead tu (g1.in_ tu) q9 _)))))))
    have e5 := h_
    intro _ _
    obtain ⟨rfl, g4, a4, b4⟩ := g1.wq tu e5
    have kz3 : (z3.2.2.2.1 c).1 = 1 := t3.k q1 q2
    have ko3 := ob_k t3 q4
    refine kjZ_y rfl rfl 4 _ _ _ _ t3 ?_
    refine (And.intro (by assumption) (And.intro rfl (And.intro (Nat.le_of_ble_eq_true rfl) (And.intro (Or.inl ⟨(Nat.le_of_ble_eq_true rfl), (by assumption)⟩) (And.intro (Nat.le_of_ble_eq_true rfl) (And.intro (Nat.le_of_ble_eq_true rfl) (kjY_mono t3 (fun q_ z4 t4 xx4 h_ => ?_) (kx_text t3 (g4.in_ t3) q9 (by decide)))))))))
    have e6 := h_
    intro _ _
    obtain ⟨rfl, g5, a5, b5⟩ := g4.wq t3 e6
    have kz4 : (z4.2.2.2.1 c).1 = 1 := t4.k q1 q2
    have ko4 := ob_k t4 q4
    refine kjZ_y rfl rfl 3 _ _ _ _ t4 ?_
    refine (And.intro (by assumption) (And.intro (Nat.le_of_ble_eq_true rfl) (And.intro (Or.inl ⟨(Nat.le_of_ble_eq_true rfl), (by assumption)⟩) (And.intro (Nat.le_of_ble_eq_true rfl) (And.intro (Nat.le_of_ble_eq_true rfl) (kjY_mono t4 (fun q_ z5 t5 xx5 h_ => ?_) (kx_nil t4 (g5.in_ t4) q9)))))))
    have e7 := h_
    intro _ _
    obtain ⟨rfl, g6, a6, b6⟩ := g5.wq t4 e7
    have kz5 : (z5.2.2.2.1 c).1 = 1 := t5.k q1 q2
    have ko5 := ob_k t5 q4
    refine kjZ_y rfl rfl 4 _ _ _ _ t5 ?_
    refine (And.intro (by assumption) (And.intro (Nat.le_of_ble_eq_true rfl) (And.intro (Or.inl ⟨(Nat.le_of_ble_eq_true rfl), (by assumption)⟩) (And.intro (Nat.le_of_ble_eq_true rfl) (And.intro (Nat.le_of_ble_eq_true rfl) (kjY_mono t5 (fun q_ z6 t6 xx6 h_ => ?_) (kx_number t5 (g6.in_ t5) q9 _)))))))
    have e8 := h_
    intro _ _
    obtain ⟨rfl, g7, a7, b7⟩ := g6.wq t5 e8
    refine kjZ_y rfl rfl 1 _ _ _ _ t6 ?_
    refine And.intro rfl (And.intro rfl ?_)
    exact ⟨rfl, nm', hp, g7, (((su.tr a4).tr a5).tr a6).tr a7, Cq.tr ty (Cq.tr ty (Cq.tr ty (Cq.tr ty hu b4) b5) b6) b7⟩
  refine kjZ_y rfl rfl 4 _ _ _ _ ty ?_
  refine (And.intro (ty.k (by decide) rfl) (And.intro (fun c1 => ?_) (fun c1 => ?_)))
  · have c1 : σ.1 53 4 ≤ nI 1 := c1
    rw [h4, nle (by omega) (by decide)] at c1
    obtain ⟨n, hn, en⟩ := g.1.2.2.2.2.2.2 c hc
    refine kjZ_y rfl rfl 2 _ _ _ _ ty ?_
    refine (And.intro (by assumption) ?_)
    exact s11 n _ en (by omega) (fun z => by omega)
  · have c1 : ¬ σ.1 53 4 ≤ nI 1 := c1
    rw [h4, nle (by omega) (by decide)] at c1
    refine kjZ_y rfl rfl 5 _ _ _ _ ty ?_
    refine (And.intro (ty.k (by decide) rfl) ?_)
    exact s11 (ws.length - 1) _ (by show σ.1 53 4 - Int32.ofInt 1 = _; rw [h4]; exact nI_sub3 (show 1 ≤ ws.length by omega)) (by omega) (fun z => by omega)
end KOTHER
