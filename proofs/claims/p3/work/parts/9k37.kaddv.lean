/-! Keys: a new value. -/
def grQ (σ : kS) (p : Nat × Nat) (M k : Nat) (u : kS) : Prop := u.2.2.1 p.1 p.2 = some σ.2.2.2.2.1 ∧ u.2.2.2.1 σ.2.2.2.2.1 = (k, M) ∧ (∀ h, h < σ.2.2.2.2.1 → u.1 h = σ.1 h ∧ u.2.1 h = σ.2.1 h ∧ u.2.2.2.1 h = σ.2.2.2.1 h) ∧ (∀ h y, h < σ.2.2.2.2.1 → ¬ (h, y) = p → u.2.2.1 h y = σ.2.2.1 h y) ∧ kEx σ u ∧ (u.2.2.2.2.2.1 + 1 = σ.2.2.2.2.2.1 ∧ u.2.2.2.2.2.2 + M = σ.2.2.2.2.2.2) ∧ u.2.2.2.2.1 = σ.2.2.2.2.1 + 1
theorem grP.q {σ u : kS} {p : Nat × Nat} {r N M k : Nat} (g : grP σ p r N M k u) : grQ σ p M k u := ⟨g.1, g.2.1, g.2.2.2.1, g.2.2.2.2.1, g.2.2.2.2.2.1, g.2.2.2.2.2.2.1, g.2.2.2.2.2.2.2⟩
theorem grQ.ow {σ u : kS} {p : Nat × Nat} {M k : Nat} (ty : kTY σ) (ow : OWN σ) (g : grQ σ p M k u) : OWN u :=
  OWN.new ty ow (fun q hq c => g.2.2.2.1 q.1 q.2 (p76 ty hq) c) g.1 (Nat.le_refl _)
theorem grQ.pot {σ u : kS} {p : Nat × Nat} {r N M k k' c : Nat} (ty : kTY σ) (hp : p ∈ OWr) (po : POT σ) (hr : σ.2.2.1 p.1 p.2 = some r) (hk : σ.2.2.2.1 r = (k', N)) (hc : c ≤ (kcapR p).1) (hN : N < c ∧ c ≤ M ∧ 64 ≤ M ∧ 2 * N ≤ M ∧ M ≤ 2 * c) (g : grQ σ p M k u) : POT u := by
  have ek : kl σ p = N := by unfold kl; rw [hr]; show (σ.2.2.2.1 r).2 = N; rw [hk]
  obtain ⟨g1, g2, g4, g5, g6, g7, g8⟩ := g
  have t76 := ty.2.2.2.1
  refine POT.growR (c := c) (N := M) hp po (by rw [ek]; exact hN.1) hc ⟨hN.2.1, hN.2.2.1, by rw [ek]; exact hN.2.2.2.1, hN.2.2.2.2⟩ ?_ (fun q hq c => kl_eq ty g6 hq (g5 q.1 q.2 (p76 ty hq) c)) (fun b hb => by rw [(g4 b (p76 ty (ow_b hb))).1]) (by rw [(g4 59 (by omega)).1]) g7
  unfold kl; rw [g1]; show (u.2.2.2.1 σ.2.2.2.2.1).2 = M; rw [g2]
theorem grQ.ch {σ u : kS} {k : Nat} {p : Nat × Nat} {M : Nat} {vs : Bool} (ty : kTY σ) (hp : p ∈ OWs) (g : grQ σ p M k u) : Ch vs [p] [p] σ u := by
  obtain ⟨g1, g2, g4, g5, g6, g7, g8⟩ := g
  refine ⟨g6, fun h y h1 h2 h3 => ?_, fun b h1 h2 h3 => ?_, fun q hq b hb => ?_⟩
  · have hl := ty.lt (h := h) (by omega)
    obtain ⟨i1, i2, -⟩ := g4 h hl
    exact ⟨by rw [i1], by rw [i2], g5 h y hl (fun z => h3 (by rw [z]; exact List.mem_cons_self))⟩
  · have hl := ty.lt (h := b) (by omega)
    obtain ⟨i1, i2, -⟩ := g4 b hl
    refine ⟨i1, i2, funext fun y => g5 b y hl (fun z => ?_)⟩
    have q : ∀ p ∈ OWs, p.1 < 76 ∧ (kd0 p.1).1 < 20 := by decide
    have q1 := q p hp
    have z1 : b = p.1 := congrArg Prod.fst z
    rw [z1, ty.2.2.1 p.1 q1.1] at h1; omega
  · by_cases c : q = p
    · rw [c] at hb ⊢; rw [g1] at hb; cases hb; exact Or.inr (Or.inl (Nat.le_refl _))
    · exact Or.inl (g5 q.1 q.2 (p76 ty hq) c)
/-- one value more -/
theorem POT.made {σ u : kS} {m : Nat} (po : POT σ) (h0 : σ.1 59 6 = nI m) (hm : m < 2600) (h1 : u.1 59 6 = nI (m + 1)) (e1 : ∀ p ∈ OWs, kl u p = kl σ p) (e2 : ∀ b ∈ OWb, u.1 b 2 = σ.1 b 2) (e4 : u.2.2.2.2.2.1 + 1 = σ.2.2.2.2.2.1 ∧ u.2.2.2.2.2.2 + 9 = σ.2.2.2.2.2.2) : POT u := by
  have hO : ∀ x ∈ OWb, (x, 1) ∈ OWs := fun x hx => ow_b hx
  have hR : ∀ x ∈ OWr, x ∈ OWs := fun x hx => List.mem_append_right _ (List.mem_append_left _ hx)
  have a1 : potB u (ksz u) = potB σ (ksz σ) := sum_eq fun x hx => by
    rw [e1 _ (hO x hx)]; unfold ksz; rw [e2 x hx]
  have a2 : potR u = potR σ := sum_eq fun x hx => by rw [e1 _ (hR x hx)]
  have a3 : kmade u = m + 1 := by unfold kmade; rw [h1]; exact nI_clamp (by omega)
  have a4 : kmade σ = m := by unfold kmade; rw [h0]; exact nI_clamp (by omega)
  have a5 : potT u + 9 = potT σ := by
    unfold potT
    rw [e1 (59, 7) (by decide), e1 (59, 8) (by decide), e1 (59, 10) (by decide), e1 (59, 11) (by decide), a3, a4]
    omega
  have a6 : gcs u = gcs σ := sum_eq fun x hx => by rw [e1 x hx]
  obtain ⟨h2, h3⟩ := po
  refine ⟨?_, ?_⟩
  · rw [a1, a2]; omega
  · rw [a3, a6]; rw [a4] at h3; omega
theorem POT.room9 {σ : kS} {m : Nat} (po : POT σ) (h0 : σ.1 59 6 = nI m) (hm : m < 2600) : 1 ≤ σ.2.2.2.2.2.1 ∧ 9 ≤ σ.2.2.2.2.2.2 := by
  have a4 : kmade σ = m := by unfold kmade; rw [h0]; exact nI_clamp (by omega)
  have a5 : 9 ≤ potT σ := by unfold potT; rw [a4]; omega
  obtain ⟨h2, h3⟩ := po
  rw [a4] at h3
  omega
section KADDV
variable {Y : Nat → MethodName × ByteArray} {d : Nat} {σ u : kS}
def nwV (v : Nat) : VR := (v, 0, 0, 0, 0, NEV, [], [[]])
abbrev avF : List (Nat × Nat) := [(59, 3), (59, 4), (59, 5), (59, 6)]
abbrev avO : List (Nat × Nat) := [(59, 3), (59, 4), (59, 5)]
def avP (σ0 : kS) (il sl : List Nat) (vs : List VR) (M T : Int32) : kK := fun v u => v = none ∧ ∃ g, RST u il (sl ++ [vs.length]) (vs ++ [nwV g]) M T ∧ OWN u ∧ POT u ∧ Ch true avF avO σ0 u
theorem k_addV2 {σ0 : kS} (ty0 : kTY σ0) (ty : kTY σ) (ow : OWN σ) (po : POT σ) {il sl : List Nat} {vs : List VR} {M T : Int32} {ri rs rh NK rt NT rn Nn te rc NC rm Nm ce : Nat} {ls : List (Nat × Nat)} (h : RSG σ il sl vs M T ri rs rh NK rt NT rn Nn te rc NC rm Nm ce ls) (hN : vs.length < NK) (hm : vs.length < 2600) (ch : Ch true avF avO σ0 σ) (o1 o2 : Option Value) :
    kjY kPP (kQQ Y) (d + 3) 134 48 [some (.ref 59), o1, o2] [] σ (avP σ0 il sl vs M T) := by
  obtain ⟨p1, p2, -, p5, p6⟩ := h.ap ty ow
  have hGo := h
  obtain ⟨⟨⟨i1, i2⟩, ⟨i3, i4⟩, ⟨i5, i6⟩, i7, i8⟩, a2, a3, ⟨⟨b1, b2, b3, b4, b5⟩, ⟨b6, b6b, b6c⟩, b7, b8, b9, b10⟩, a5, a6, a7⟩ := h
  have hr := po.room9 b2 hm
  have lrh := ty.lr i6 (by decide)
  have lrs := ty.lr i4 (by decide)
  have lri := ty.lr i2 (by decide)
  have t76 := ty.2.2.2.1
  have vm : vp_in (σ.1 59 6) NK := by rw [b2]; exact vp_in_nI hN (by omega)
  have cm : (σ.1 59 6).toNatClampNeg = vs.length := by rw [b2]; exact nI_clamp (by omega)
  have kh : (kVal σ).2.2.2.1 rh = (25, NK) := by show kUp σ.2.2.2.1 σ.2.2.2.2.1 (11, 0) rh = _; rw [kUp_n (by omega)]; exact i6
  have kn : ((kVal σ).2.2.2.1 σ.2.2.2.2.1).1 = 11 := by show (kUp σ.2.2.2.1 σ.2.2.2.2.1 (11, 0) σ.2.2.2.2.1).1 = _; rw [kUp_s]
  refine kjZ_y rfl rfl 6 _ _ _ _ ty ?_
  refine (And.intro (ty.k (by decide) rfl) (Exists.intro _ (And.intro i5 (And.intro (ty.k (by decide) rfl) (And.intro rfl (And.intro ⟨rfl, hr.1, hr.2, (Nat.le_of_ble_eq_true rfl), (Nat.le_of_ble_eq_true rfl)⟩ (fun ty' => (And.intro ⟨(kdk kh), kn⟩ (And.intro (kdv kh vm) (fun ty'' => ?_))))))))))
  have go1 : ∀ u1, kTY u1 → u1 = ((kVal σ).1, (kVal σ).2.1, kFu (kVal σ).2.2.1 rh (σ.1 59 6).toNatClampNeg (some σ.2.2.2.2.1), (kVal σ).2.2.2) → kjY kPP (kQQ Y) (d + 3) 134 57 [some (.ref 59), o1, o2] [] u1 (avP σ0 il sl vs M T) := by
    intro u1 ty1 eu1
    rw [cm] at eu1
    have eI1 : ∀ h, h < σ.2.2.2.2.1 → u1.1 h = σ.1 h := fun h hh => by rw [eu1]; exact kUp_n (by omega)
    have eF1 : ∀ h y, h < σ.2.2.2.2.1 → ¬ (h = rh ∧ y = vs.length) → u1.2.2.1 h y = σ.2.2.1 h y := fun h y hh z => by
      rw [eu1]; show kFu (kVal σ).2.2.1 rh vs.length _ h y = _
      rw [kFu_at, if_neg z]; show kUp σ.2.2.1 σ.2.2.2.2.1 _ h y = _
      rw [kUp_n (by omega)]
    have n59 := (p2 rh (by simp)).2
    have f3 : u1.2.2.1 59 4 = some rs := by rw [eF1 59 4 (by omega) (fun z => n59 z.1.symm)]; exact i3
    have eD1 : ∀ h, h < σ.2.2.2.2.1 → u1.2.2.2.1 h = σ.2.2.2.1 h := fun h hh => by rw [eu1]; exact kUp_n (by omega)
    have f4 : u1.2.2.2.1 rs = (20, NK) := by rw [eD1 rs lrs]; exact i4
    have f6 : u1.1 59 6 = nI vs.length := by rw [eI1 59 (by omega)]; exact b2
    have vm1 : vp_in (u1.1 59 6) NK := by rw [f6]; exact vp_in_nI hN (by omega)
    refine kjZ_y rfl rfl 7 _ _ _ _ ty1 ?_
    refine (And.intro (ty1.k (by decide) rfl) (Exists.intro _ (And.intro f3 (And.intro (ty1.k (by decide) rfl) (And.intro (ty1.k (by decide) rfl) (And.intro (kdk f4) (And.intro (kdv f4 vm1) (fun ty1' => ?_))))))))
    have go2 : ∀ u2, kTY u2 → u2 = (mjIu u1.1 rs (u1.1 59 6).toNatClampNeg (u1.1 59 6), u1.2) → kjY kPP (kQQ Y) (d + 3) 134 64 [some (.ref 59), o1, o2] [] u2 (avP σ0 il sl vs M T) := by
      intro u2 ty2 eu2
      rw [f6, show (nI vs.length).toNatClampNeg = vs.length from nI_clamp (by omega)] at eu2
      have nrs := (p2 rs (by simp)).2
      have g6 : u2.1 59 6 + Int32.ofInt 1 = nI (vs.length + 1) := by
        rw [eu2]; show mjIu u1.1 rs _ _ 59 6 + _ = _
        rw [mjIu_n (fun z => nrs z.symm), f6]; exact nI_1 _
      refine kjZ_y rfl rfl 7 _ _ _ _ ty2 ?_
      refine (And.intro (ty2.k (by decide) rfl) (And.intro (ty2.k (by decide) rfl) (And.intro (Or.inl rfl) (fun ty2' => And.intro rfl (And.intro rfl ?_)))))
      have go3 : ∀ w : kS, w = (mjIu u2.1 59 6 (u2.1 59 6 + Int32.ofInt 1), u2.2) → RST w il (sl ++ [vs.length]) (vs ++ [nwV σ.2.2.2.2.1]) M T ∧ OWN w ∧ POT w ∧ Ch true avF avO σ0 w := by
        intro w ew
        rw [g6] at ew
        have eI : ∀ h y, h < σ.2.2.2.2.1 → ¬ (h = rs ∧ y = vs.length) → ¬ (h = 59 ∧ y = 6) → w.1 h y = σ.1 h y := fun h y hh z1 z2 => by
          rw [ew]; show mjIu u2.1 59 6 _ h y = _
          rw [mjIu_at, if_neg z2, eu2]; show mjIu u1.1 rs _ _ h y = _
          rw [mjIu_at, if_neg z1, eI1 h hh]
        have eIs : w.1 rs vs.length = nI vs.length := by
          rw [ew]; show mjIu u2.1 59 6 _ rs _ = _
          rw [mjIu_at, if_neg (fun z => nrs z.1), eu2]; show mjIu u1.1 rs _ _ rs _ = _
          rw [mjIu_at, if_pos ⟨rfl, rfl⟩]
        have eI6 : w.1 59 6 = nI (vs.length + 1) := by rw [ew]; show mjIu u2.1 59 6 (nI (vs.length + 1)) 59 6 = _; rw [mjIu_at, if_pos ⟨rfl, rfl⟩]
        have eL : ∀ h, h < σ.2.2.2.2.1 → w.2.1 h = σ.2.1 h := fun h hh => by
          rw [ew, eu2, eu1]; exact kUp_n (by omega)
        have eF : ∀ h y, h < σ.2.2.2.2.1 → ¬ (h = rh ∧ y = vs.length) → w.2.2.1 h y = σ.2.2.1 h y := fun h y hh z => by
          rw [ew, eu2]; exact eF1 h y hh z
        have eFh : w.2.2.1 rh vs.length = some σ.2.2.2.2.1 := by
          rw [ew, eu2, eu1]; show kFu (kVal σ).2.2.1 rh vs.length _ rh _ = _
          rw [kFu_at, if_pos ⟨rfl, rfl⟩]
        have eD : ∀ h, h < σ.2.2.2.2.1 → w.2.2.2.1 h = σ.2.2.2.1 h := fun h hh => by rw [ew, eu2]; exact eD1 h hh
        have eDn : w.2.2.2.1 σ.2.2.2.2.1 = (11, 0) := by rw [ew, eu2, eu1]; exact kUp_s
        have eNn : ∀ y, ¬ (σ.2.2.2.2.1 = rs ∧ y = vs.length) → ¬ (σ.2.2.2.2.1 = 59 ∧ y = 6) → w.1 σ.2.2.2.2.1 y = 0 := fun y z1 z2 => by
          rw [ew]; show mjIu u2.1 59 6 _ σ.2.2.2.2.1 y = _
          rw [mjIu_at, if_neg z2, eu2]; show mjIu u1.1 rs _ _ σ.2.2.2.2.1 y = _
          rw [mjIu_at, if_neg z1, eu1]; show kUp σ.1 σ.2.2.2.2.1 _ σ.2.2.2.2.1 y = _
          rw [kUp_s]
        have eLn : w.2.1 σ.2.2.2.2.1 3 = NEV := by
          rw [ew, eu2, eu1]; show kUp σ.2.1 σ.2.2.2.2.1 (vp_updL (fun _ => 0) 3 9223372036854775807) σ.2.2.2.2.1 3 = _
          rw [kUp_s]; rfl
        have ex : kEx σ w := by
          rw [ew, eu2, eu1]
          exact ⟨Nat.le_succ _, fun h hh => kUp_n (by omega), by show σ.2.2.2.2.1 + 1 + (σ.2.2.2.2.2.1 - 1) = _; omega, by show σ.2.2.2.2.2.2 - 9 ≤ _; omega⟩
        have ecz : w.2.2.2.2.2.1 + 1 = σ.2.2.2.2.2.1 ∧ w.2.2.2.2.2.2 + 9 = σ.2.2.2.2.2.2 := by
          rw [ew, eu2, eu1]; show σ.2.2.2.2.2.1 - 1 + 1 = _ ∧ σ.2.2.2.2.2.2 - 9 + 9 = _; omega
        have o59 : ∀ y, ¬ y = 6 → w.1 59 y = σ.1 59 y := fun y z => eI 59 y (by omega) (fun q => nrs q.1.symm) (fun q => z q.2)
        have q59 : ∀ y, w.2.2.1 59 y = σ.2.2.1 59 y := fun y => eF 59 y (by omega) (fun z => n59 z.1.symm)
        have lv : ∀ v, σ.2.2.2.1 v = (11, 0) → v < σ.2.2.2.2.1 := fun v hv => ty.lt (by rw [hv]; decide)
        have nv : ∀ v, σ.2.2.2.1 v = (11, 0) → ¬ v = rs ∧ ¬ v = 59 ∧ ¬ v = rh := fun v hv => ⟨fun z => (p2 rs (by simp)).1.2 (by rw [← z]; exact hv), fun z => k11 ty hv (show 59 < 76 by decide) z.symm, fun z => (p2 rh (by simp)).1.2 (by rw [← z]; exact hv)⟩
        obtain ⟨⟨t1, t2⟩, ⟨t3, t4⟩, t5, t6, t7, t8, t9, t10⟩ := a2
        obtain ⟨⟨c1, c2⟩, ⟨c3, c4⟩, c5, c6, c7, c8, c9, c10⟩ := a3
        have lrt := ty.lr t2 (by decide)
        have lrn := ty.lr t4 (by decide)
        have lrc := ty.lr c2 (by decide)
        have lrm := ty.lr c4 (by decide)
        have pw : ∀ p ∈ OWs, w.2.2.1 p.1 p.2 = σ.2.2.1 p.1 p.2 := fun p hp => by
          have q : ∀ p ∈ OWs, p.1 < 76 ∧ (kd0 p.1).1 < 20 := by decide
          obtain ⟨q1, q2⟩ := q p hp
          refine eF p.1 p.2 (by omega) (fun z => ?_)
          rw [← z.1, ty.2.2.1 p.1 q1] at i6
          rw [i6] at q2; exact absurd q2 (show ¬ (25 : Nat) < 20 by decide)
        refine ⟨⟨ri, rs, rh, NK, rt, NT, rn, Nn, te, rc, NC, rm, Nm, ce, ls ++ [(0, 0)], ⟨⟨by rw [q59]; exact i1, by rw [eD ri lri]; exact i2⟩, ⟨by rw [q59]; exact i3, by rw [eD rs lrs]; exact i4⟩, ⟨by rw [q59]; exact i5, by rw [eD rh lrh]; exact i6⟩, i7, i8⟩, ⟨⟨by rw [q59]; exact t1, by rw [eD rt lrt]; exact t2⟩, ⟨by rw [q59]; exact t3, by rw [eD rn lrn]; exact t4⟩, t5, t6, t7, t8, (o59 9 (by decide)).trans t9, t10⟩, ⟨⟨by rw [q59]; exact c1, by rw [eD rc lrc]; exact c2⟩, ⟨by rw [q59]; exact c3, by rw [eD rm lrm]; exact c4⟩, c5, c6, c7, c8, (o59 12 (by decide)).trans c9, c10⟩, ⟨⟨(o59 13 (by decide)).trans b1, ?_, ?_, ?_, ?_⟩, ⟨?_, ?_, ?_⟩, fun i k hk => ?_, fun i k hk => ?_, fun i r hr => ?_, ?_⟩, ⟨?_, fun i r l hr hl => ?_, fun i j r l r' l' hij e1 e2 e3 e4 => ?_⟩, (o59 14 (by decide)).trans a6, (o59 15 (by decide)).trans a7⟩, ow.same pw, po.made b2 hm eI6 (fun p hp => kl_eq ty ex hp (pw p hp)) (fun b q => ?_) ecz, ?_⟩
        · rw [eI6, List.length_append]; rfl
        · rw [List.length_append]; omega
        · rw [List.length_append]; exact hN
        · rw [List.length_append]; exact hm
        · rw [List.length_append, List.length_append, b6]; rfl
        · rw [List.nodup_append]
          exact ⟨b6b, List.nodup_cons.mpr ⟨List.not_mem_nil, List.nodup_nil⟩, fun a ha b hb => by rw [List.mem_singleton.mp hb]; have := b6c a ha; omega⟩
        · intro s hs
          rw [List.length_append]
          rcases List.mem_append.mp hs with z | z
          · have := b6c s z; omega
          · rw [List.mem_singleton.mp z]; exact Nat.lt_succ_self _
        · rw [eI ri i lri (fun z => p1 z.1) (fun z => (p2 ri (by simp)).2 z.1)]; exact b7 i k hk
        · rcases app_get hk with ⟨z1, z2⟩ | ⟨z1, z2⟩
          · rw [eI rs i lrs (fun z => by omega) (fun z => nrs z.1)]; exact b8 i k z2
          · have hl0 := (List.getElem?_eq_some_iff.mp z2).1
            have hl0 : i - sl.length < 1 := hl0
            rw [show i - sl.length = 0 by omega] at z2
            cases z2
            rw [show i = vs.length by omega]; exact eIs
        · rcases app_get hr with ⟨z1, z2⟩ | ⟨z1, z2⟩
          · rw [eF rh i lrh (fun z => by omega)]; exact b9 i r z2
          · have hl0 := (List.getElem?_eq_some_iff.mp z2).1
            have hl0 : i - vs.length < 1 := hl0
            rw [show i - vs.length = 0 by omega] at z2
            cases z2
            rw [show i = vs.length by omega]; exact eFh
        · rw [List.map_append, List.nodup_append]
          refine ⟨b10, List.nodup_cons.mpr ⟨List.not_mem_nil, List.nodup_nil⟩, fun a ha b hb => ?_⟩
          rw [List.mem_singleton.mp hb]
          obtain ⟨r, hr, rfl⟩ := List.mem_map.mp ha
          obtain ⟨i, hi⟩ := List.getElem?_of_mem hr
          obtain ⟨l, hl, hV, -⟩ := hGo.v hi
          have := lv _ hV.1.1
          show ¬ r.1 = σ.2.2.2.2.1
          omega
        · rw [List.length_append, List.length_append, a5.1]; rfl
        · rcases app_get hr with ⟨z1, z2⟩ | ⟨z1, z2⟩
          · rw [List.getElem?_append_left (by rw [a5.1]; exact z1)] at hl
            have hv := a5.2.1 i r l z2 hl
            have hd := hv.1.1
            have hlv := lv _ hd
            obtain ⟨n1, n2, n3⟩ := nv _ hd
            refine hv.fr (Nat.le_refl _) (Nat.le_refl _) ⟨by rw [eD _ lrt]; exact Nat.le_refl _, by rw [eD _ lrc]; exact Nat.le_refl _⟩ (by rw [eD _ hlv]; exact hd) (fun x => eI _ x hlv (fun z => n1 z.1) (fun z => n2 z.1)) (fun x => by rw [eL _ hlv]) (fun _ j _ _ => eI rt j lrt (fun z => p6 z.1.symm) (fun z => (p2 rt (by simp)).2 z.1)) (fun _ j _ _ => by rw [eL rc lrc])
          · have hl0 := (List.getElem?_eq_some_iff.mp z2).1
            have hl0 : i - vs.length < 1 := hl0
            rw [show i - vs.length = 0 by omega] at z2
            cases z2
            rw [List.getElem?_append_right (by rw [a5.1]; omega), show i - ls.length = 0 by rw [a5.1]; omega] at hl
            cases hl
            refine VOK.fl ⟨eDn, by decide, ?_, ?_, eLn, ?_, ?_⟩ ⟨?_, ?_, ?_⟩ <;> exact eNn _ (fun z => by omega) (fun z => by omega)
        · rcases app_get e1 with ⟨z1, z2⟩ | ⟨z1, z2⟩
          · rw [List.getElem?_append_left (by rw [a5.1]; exact z1)] at e2
            rcases app_get e3 with ⟨y1, y2⟩ | ⟨y1, y2⟩
            · rw [List.getElem?_append_left (by rw [a5.1]; exact y1)] at e4
              exact a5.2.2 i j r l r' l' hij z2 e2 y2 e4
            · have hl0 := (List.getElem?_eq_some_iff.mp y2).1
              have hl0 : j - vs.length < 1 := hl0
              rw [show j - vs.length = 0 by omega] at y2
              cases y2
              rw [List.getElem?_append_right (by rw [a5.1]; omega), show j - ls.length = 0 by rw [a5.1]; omega] at e4
              cases e4
              exact (LD.em (v := σ.2.2.2.2.1) (k := 0)).sy
          · have hl0 := (List.getElem?_eq_some_iff.mp z2).1
            have hl0 : i - vs.length < 1 := hl0
            rw [show i - vs.length = 0 by omega] at z2
            cases z2
            rw [List.getElem?_append_right (by rw [a5.1]; omega), show i - ls.length = 0 by rw [a5.1]; omega] at e2
            cases e2
            exact LD.em (v := σ.2.2.2.2.1) (k := 0)
        · have kb := ob_k ty q
          have hb : ∀ b ∈ OWb, b < 76 ∧ ¬ b = 59 := by decide
          refine eI b 2 (by have := (hb b q).1; omega) (fun z => ?_) (fun z => (hb b q).2 z.1)
          rw [z.1, i4] at kb; exact absurd kb (show ¬ (20 : Nat) = 0 by decide)
        · refine Ch.tr ty0 (by decide) ch ⟨ex, fun h y g1 g2 g3 => ?_, fun g g1 g2 g3 => ?_, fun p hp b hb => Or.inl (pw p hp)⟩
          · have hl := ty.lt (h := h) (by omega)
            refine ⟨eI h y hl (fun z => ?_) (fun z => g3 (by rw [z.1, z.2]; decide)), by rw [eL h hl], eF h y hl (fun z => ?_)⟩
            · rw [z.1, i4] at g1; exact absurd g1 (show ¬ (20 : Nat) < 20 by decide)
            · rw [z.1, i6] at g1; exact absurd g1 (show ¬ (25 : Nat) < 20 by decide)
          · have hl := ty.lt (h := g) (by omega)
            refine ⟨funext fun y => eI g y hl (fun z => g3 (59, 4) (by decide) (by rw [z.1]; exact i3)) (fun z => ?_), eL g hl, funext fun y => eF g y hl (fun z => g3 (59, 5) (by decide) (by rw [z.1]; exact i5))⟩
            rw [z.1, ty.k (h := 59) (by decide) rfl] at g1; exact absurd g1 (by decide)
      exact ⟨rfl, σ.2.2.2.2.1, go3 _ rfl⟩
    exact go2 _ ty1' rfl
  exact go1 _ ty'' rfl
end KADDV
