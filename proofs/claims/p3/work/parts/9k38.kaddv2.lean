/-! Keys: a new value, where the rows must be longer. -/
section KADDV2
variable {Y : Nat → MethodName × ByteArray} {d : Nat} {σ u : kS}
theorem RSG.grow3 (ty : kTY σ) {il sl : List Nat} {vs : List VR} {M T : Int32} {ri rs rh NK rt NT rn Nn te rc NC rm Nm ce : Nat} {ls : List (Nat × Nat)} (h : RSG σ il sl vs M T ri rs rh NK rt NT rn Nn te rc NC rm Nm ce ls) {ri' rs' rh' NK' : Nat} (hA : ∀ h, h < σ.2.2.2.2.1 → u.1 h = σ.1 h ∧ u.2.1 h = σ.2.1 h ∧ u.2.2.2.1 h = σ.2.2.2.1 h) (hB : ∀ h y, h < σ.2.2.2.2.1 → ¬ (h, y) ∈ avO → u.2.2.1 h y = σ.2.2.1 h y) (hi : (u.2.2.1 59 3 = some ri' ∧ u.2.2.2.1 ri' = (20, NK')) ∧ ∀ j, j < NK → u.1 ri' j = σ.1 ri j) (hs : (u.2.2.1 59 4 = some rs' ∧ u.2.2.2.1 rs' = (20, NK')) ∧ ∀ j, j < NK → u.1 rs' j = σ.1 rs j) (hh : (u.2.2.1 59 5 = some rh' ∧ u.2.2.2.1 rh' = (25, NK')) ∧ ∀ j, j < vs.length → u.2.2.1 rh' j = σ.2.2.1 rh j) (hN : NK ≤ NK' ∧ NK' ≤ 5200) : RSG u il sl vs M T ri' rs' rh' NK' rt NT rn Nn te rc NC rm Nm ce ls := by
  obtain ⟨⟨⟨i1, i2⟩, ⟨i3, i4⟩, ⟨i5, i6⟩, i7, i8⟩, ⟨⟨t1, t2⟩, ⟨t3, t4⟩, t5, t6, t7, t8, t9, t10⟩, ⟨⟨c1, c2⟩, ⟨c3, c4⟩, c5, c6, c7, c8, c9, c10⟩, ⟨⟨b1, b2, b3, b4, b5⟩, ⟨b6, b6b, b6c⟩, b7, b8, b9, b10⟩, a5, a6, a7⟩ := h
  have t76 := ty.2.2.2.1
  have l59 : 59 < σ.2.2.2.2.1 := by omega
  have e59 : ∀ y, u.1 59 y = σ.1 59 y := fun y => by rw [(hA 59 l59).1]
  refine ⟨⟨hi.1, hs.1, hh.1, by omega, hN.2⟩, ⟨⟨by rw [hB 59 7 l59 (by decide)]; exact t1, by rw [(hA rt (ty.lr t2 (by decide))).2.2]; exact t2⟩, ⟨by rw [hB 59 8 l59 (by decide)]; exact t3, by rw [(hA rn (ty.lr t4 (by decide))).2.2]; exact t4⟩, t5, t6, t7, t8, (e59 9).trans t9, t10⟩, ⟨⟨by rw [hB 59 10 l59 (by decide)]; exact c1, by rw [(hA rc (ty.lr c2 (by decide))).2.2]; exact c2⟩, ⟨by rw [hB 59 11 l59 (by decide)]; exact c3, by rw [(hA rm (ty.lr c4 (by decide))).2.2]; exact c4⟩, c5, c6, c7, c8, (e59 12).trans c9, c10⟩, ⟨⟨(e59 13).trans b1, (e59 6).trans b2, b3, by omega, b5⟩, ⟨b6, b6b, b6c⟩, fun i k hk => ?_, fun i k hk => ?_, fun i r hr => ?_, b10⟩, ?_, (e59 14).trans a6, (e59 15).trans a7⟩
  · have := (List.getElem?_eq_some_iff.mp hk).1
    rw [hi.2 i (by omega)]; exact b7 i k hk
  · have := (List.getElem?_eq_some_iff.mp hk).1
    rw [hs.2 i (by omega)]; exact b8 i k hk
  · have := (List.getElem?_eq_some_iff.mp hr).1
    rw [hh.2 i this]; exact b9 i r hr
  · refine a5.fr (fun v hv => ?_) ⟨by rw [(hA rt (ty.lr t2 (by decide))).2.2]; exact Nat.le_refl _, by rw [(hA rc (ty.lr c2 (by decide))).2.2]; exact Nat.le_refl _⟩ (hA rt (ty.lr t2 (by decide))).1 (hA rc (ty.lr c2 (by decide))).2.1
    obtain ⟨z1, z2, z3⟩ := hA v (ty.lt (by rw [hv]; decide))
    exact ⟨by rw [z3]; exact hv, z1, z2⟩
/-- how far the new shelf is filled -/
def shF (σ : kS) (rh m i : Nat) (u : kS) : Prop := (∀ h, h < σ.2.2.2.2.1 → u.1 h = σ.1 h ∧ u.2.1 h = σ.2.1 h ∧ u.2.2.2.1 h = σ.2.2.2.1 h ∧ u.2.2.1 h = σ.2.2.1 h) ∧ u.2.2.2.1 σ.2.2.2.2.1 = (25, 2 * m) ∧ (∀ j, j < i → u.2.2.1 σ.2.2.2.2.1 j = σ.2.2.1 rh j) ∧ (u.2.2.2.2.1 = σ.2.2.2.2.1 + 1 ∧ u.2.2.2.2.2.1 + 1 = σ.2.2.2.2.2.1 ∧ u.2.2.2.2.2.2 + 2 * m = σ.2.2.2.2.2.2) ∧ kEx σ u
theorem k_shelf_l (K : kK) (ty : kTY σ) {rh NK m : Nat} (i5 : σ.2.2.1 59 5 = some rh) (i6 : σ.2.2.2.1 rh = (25, NK)) (b2 : σ.1 59 6 = nI m) (hm : m ≤ NK ∧ m ≤ 2600 ∧ NK ≤ 5200) (hv : ∀ j, j < m → ∃ g, σ.2.2.1 rh j = some g ∧ (σ.2.2.2.1 g).1 = 11)
    (hK : ∀ u x2, kTY u → shF σ rh m m u → kjY kPP (kQQ Y) d 134 27 [some (.ref 59), some (.ref σ.2.2.2.2.1), some (.int x2)] [] u K) : ∀ (f i : Nat) (x2 : Int32) (u : kS), i + f = m → x2 = nI i → kTY u → shF σ rh m i u →
    kjY kPP (kQQ Y) d 134 14 [some (.ref 59), some (.ref σ.2.2.2.2.1), some (.int x2)] [] u K := by
  have t76 := ty.2.2.2.1
  have lrh := ty.lr i6 (by decide)
  intro f
  induction f with
  | zero =>
    intro i x2 u hi e2 tu su
    have f6 : u.1 59 6 = nI m := by rw [(su.1 59 (by omega)).1]; exact b2
    refine kjZ_y rfl rfl 4 _ _ _ _ tu ?_
    refine (And.intro (tu.k (by decide) rfl) (And.intro (fun c => ?_) (fun c => ?_)))
    · exact hK u x2 tu (by rw [show m = i by omega] at su ⊢; exact su)
    · refine absurd (show u.1 59 6 ≤ x2 from ?_) c
      rw [f6, e2, nle (by omega) (by omega)]; omega
  | succ f ih =>
    intro i x2 u hi e2 tu su
    have f6 : u.1 59 6 = nI m := by rw [(su.1 59 (by omega)).1]; exact b2
    refine kjZ_y rfl rfl 4 _ _ _ _ tu ?_
    refine (And.intro (tu.k (by decide) rfl) (And.intro (fun c => ?_) (fun c => ?_)))
    · refine absurd (show u.1 59 6 ≤ x2 from c) ?_
      rw [f6, e2, nle (by omega) (by omega)]; omega
    obtain ⟨g, g1, g2⟩ := hv i (by omega)
    have j5 : u.2.2.1 59 5 = some rh := by rw [(su.1 59 (by omega)).2.2.2]; exact i5
    have j6 : u.2.2.2.1 rh = (25, NK) := by rw [(su.1 rh lrh).2.2.1]; exact i6
    have c2 : x2.toNatClampNeg = i := by rw [e2]; exact nI_clamp (by omega)
    have jg : u.2.2.1 rh x2.toNatClampNeg = some g := by rw [c2, (su.1 rh lrh).2.2.2]; exact g1
    have lg : g < σ.2.2.2.2.1 := ty.lt (by rw [g2]; decide)
    have kg : (u.2.2.2.1 g).1 = 11 := by rw [(su.1 g lg).2.2.1]; exact g2
    have v1 : vp_in x2 NK := by rw [e2]; exact vp_in_nI (by omega) (by omega)
    have v2 : vp_in x2 (2 * m) := by rw [e2]; exact vp_in_nI (by omega) (by omega)
    refine kjZ_y rfl rfl 9 _ _ _ _ tu ?_
    refine (And.intro (tu.k (by decide) rfl) (Exists.intro _ (And.intro j5 (Or.inl (And.intro (Or.inr (kdk j6)) (And.intro (kdv j6 v1) (Exists.intro _ (And.intro jg (And.intro ⟨(kdk su.2.1), kg⟩ (And.intro (kdv su.2.1 v2) (fun tu' => ?_)))))))))))
    have go : ∀ w, kTY w → w = (u.1, u.2.1, kFu u.2.2.1 σ.2.2.2.2.1 x2.toNatClampNeg (some g), u.2.2.2) → kjY kPP (kQQ Y) d 134 14 [some (.ref 59), some (.ref σ.2.2.2.2.1), some (.int (x2 + Int32.ofInt 1))] [] w K := by
      intro w tw ew
      rw [c2] at ew
      refine ih (i + 1) _ w (by omega) (by rw [e2]; exact nI_1 i) tw ?_
      obtain ⟨s1, s2, s3, s4, s5⟩ := su
      refine ⟨fun h hh => ?_, by rw [ew]; exact s2, fun j hj => ?_, by rw [ew]; exact s4, by rw [ew]; exact ⟨s5.1, s5.2.1, s5.2.2.1, s5.2.2.2⟩⟩
      · obtain ⟨q1, q2, q3, q4⟩ := s1 h hh
        refine ⟨by rw [ew]; exact q1, by rw [ew]; exact q2, by rw [ew]; exact q3, ?_⟩
        rw [ew]; show kFu u.2.2.1 σ.2.2.2.2.1 i _ h = _
        rw [kFu_n (by omega)]; exact q4
      · rw [ew]; show kFu u.2.2.1 σ.2.2.2.2.1 i _ σ.2.2.2.2.1 j = _
        rw [kFu_at]
        by_cases z : j = i
        · rw [if_pos ⟨rfl, z⟩, z]; exact g1.symm
        · rw [if_neg (fun q => z q.2)]; exact s3 j (by omega)
    exact go _ tu' rfl
theorem k_addValue (ty : kTY σ) (ow : OWN σ) (po : POT σ) {il sl : List Nat} {vs : List VR} {M T : Int32} (h : RST σ il sl vs M T) (hm : vs.length < 2600) :
    kjY kPP (kQQ Y) (d + 3) 134 0 (mjL0 3 [.ref 59]) [] σ (avP σ il sl vs M T) := by
  obtain ⟨ri, rs, rh, NK, rt, NT, rn, Nn, te, rc, NC, rm, Nm, ce, ls, hG⟩ := h
  obtain ⟨p1, p2, -, p5, p6⟩ := hG.ap ty ow
  have hGo := hG
  obtain ⟨⟨⟨i1, i2⟩, ⟨i3, i4⟩, ⟨i5, i6⟩, i7, i8⟩, a2, a3, ⟨⟨b1, b2, b3, b4, b5⟩, ⟨b6, b6b, b6c⟩, b7, b8, b9, b10⟩, a5, a6, a7⟩ := hG
  have t76 := ty.2.2.2.1
  have lri := ty.lr i2 (by decide)
  have lrs := ty.lr i4 (by decide)
  have lrh := ty.lr i6 (by decide)
  refine kjZ_y rfl rfl 6 _ _ _ _ ty ?_
  refine (And.intro (ty.k (by decide) rfl) (And.intro (ty.k (by decide) rfl) (Exists.intro _ (And.intro i5 (Or.inl (And.intro (kdq i6) (And.intro (fun c => ?_) (fun c => ?_))))))))
  · refine k_addV2 ty ty ow po hGo ?_ hm Ch.rf none none
    have c : ¬ σ.1 59 6 = nI (σ.2.2.2.1 rh).2 := c
    rw [i6, b2] at c
    exact Nat.lt_of_le_of_ne b4 (fun z => c (by rw [z]))
  have c : σ.1 59 6 = nI (σ.2.2.2.1 rh).2 := Decidable.not_not.mp c
  rw [i6, b2] at c
  have hmN : vs.length = NK := (nI_eq (by omega) (by omega)).mp c
  have e2m : Int32.ofInt 2 * σ.1 59 6 = nI (2 * vs.length) := by rw [b2, nI_2]
  have ek5 : kl σ (59, 5) = NK := by unfold kl; show (σ.2.2.2.1 ((σ.2.2.1 59 5).getD 0)).2 = NK; rw [i5]; show (σ.2.2.2.1 rh).2 = NK; rw [i6]
  have pay5 := POT.pay (p := (59, 5)) (c := vs.length + 1) (N := 2 * vs.length) (by decide) po (by rw [ek5]; omega) (by show _ ≤ 2600; omega) (by rw [ek5]; omega)
  refine kjZ_y rfl rfl 8 _ _ _ _ ty ?_
  refine (And.intro (ty.k (by decide) rfl) (Exists.intro (2 * vs.length) (And.intro e2m (And.intro ⟨(by omega), rfl⟩ (And.intro ⟨pay5.2.1, pay5.1⟩ (fun ty' => (And.intro (Nat.le_of_ble_eq_true rfl) (And.intro (Nat.le_of_ble_eq_true rfl) ?_))))))))
  refine k_shelf_l _ ty i5 i6 b2 ⟨by omega, by omega, by omega⟩ (fun j hj => ?_) (fun v1 x2 tv1 s1 => ?_) vs.length 0 _ _ (by omega) rfl ty' ?_
  · have hr : vs[j]? = some vs[j] := List.getElem?_eq_getElem hj
    obtain ⟨l, hl, hV, -⟩ := hGo.v hr
    exact ⟨_, b9 j _ hr, by rw [hV.1.1]⟩
  · obtain ⟨s1, s2, s3, ⟨s4, s5, s6⟩, s7⟩ := s1
    have kn : (v1.2.2.2.1 σ.2.2.2.2.1).1 = 25 := by rw [s2]
    refine kjZ_y rfl rfl 3 _ _ _ _ tv1 ?_
    refine (And.intro (tv1.k (by decide) rfl) (And.intro (Or.inl ⟨rfl, kn⟩) (fun tv1' => ?_)))
    have go1 : ∀ v, kTY v → v = (v1.1, v1.2.1, kFu v1.2.2.1 59 5 (some σ.2.2.2.2.1), v1.2.2.2) → kjY kPP (kQQ Y) (d + 3) 134 30 [some (.ref 59), some (.ref σ.2.2.2.2.1), some (.int x2)] [] v (avP σ il sl vs M T) := by
      intro v tv ev
      have gq : grQ σ (59, 5) (2 * vs.length) 25 v := by
        refine ⟨?_, by rw [ev]; exact s2, fun h hh => ?_, fun h y hh hp => ?_, by rw [ev]; exact ⟨s7.1, s7.2.1, s7.2.2.1, s7.2.2.2⟩, by rw [ev]; exact ⟨s5, s6⟩, by rw [ev]; exact s4⟩
        · rw [ev]; show kFu v1.2.2.1 59 5 (some σ.2.2.2.2.1) 59 5 = _; rw [kFu_at, if_pos ⟨rfl, rfl⟩]
        · obtain ⟨q1, q2, q3, -⟩ := s1 h hh
          rw [ev]; exact ⟨q1, q2, q3⟩
        · rw [ev]; show kFu v1.2.2.1 59 5 _ h y = _
          rw [kFu_at, if_neg (fun z => hp (by rw [z.1, z.2])), (s1 h hh).2.2.2]
      have hF : ∀ j, j < vs.length → v.2.2.1 σ.2.2.2.2.1 j = σ.2.2.1 rh j := fun j hj => by
        rw [ev]; show kFu v1.2.2.1 59 5 _ σ.2.2.2.2.1 j = _
        rw [kFu_n (by omega)]; exact s3 j hj
      have pv := gq.pot (c := vs.length + 1) ty (by decide) po i5 i6 (by show _ ≤ 2600; omega) (by omega)
      have ov := gq.ow ty ow
      have cv := gq.ch (vs := true) ty (by decide)
      obtain ⟨g1, g2, g4, g5, g6, g7, g8⟩ := gq
      have f3 : v.2.2.1 59 3 = some ri := by rw [g5 59 3 (by omega) (by decide)]; exact i1
      have f3d : v.2.2.2.1 ri = (20, NK) := by rw [(g4 ri lri).2.2]; exact i2
      have f6 : v.1 59 6 = nI vs.length := by rw [(g4 59 (by omega)).1]; exact b2
      have e2v : Int32.ofInt 2 * v.1 59 6 = nI (2 * vs.length) := by rw [f6, nI_2]
      have ek3 : kl v (59, 3) = NK := by unfold kl; show (v.2.2.2.1 ((v.2.2.1 59 3).getD 0)).2 = NK; rw [f3]; show (v.2.2.2.1 ri).2 = NK; rw [f3d]
      have pay3 := POT.pay (p := (59, 3)) (c := vs.length + 1) (N := 2 * vs.length) (by decide) pv (by rw [ek3]; omega) (by show _ ≤ 2600; omega) (by rw [ek3]; omega)
      refine kjZ_y rfl rfl 8 _ _ _ _ tv ?_
      refine (And.intro (tv.k (by decide) rfl) (Exists.intro _ (And.intro f3 (And.intro (tv.k (by decide) rfl) (And.intro (Nat.le_of_ble_eq_true rfl) (And.intro (Nat.le_of_ble_eq_true rfl) (And.intro (Nat.le_of_ble_eq_true rfl) (kjY_mono tv (fun q_ w1 tw1 xw1 h_ => ?_) (k_copyI tv ri NK (2 * vs.length) f3d _ e2v (by omega) (by omega) pay3.2.1 pay3.1)))))))))
      obtain ⟨rfl, ew1⟩ := h_
      intro _ _
      have kn3 : (w1.2.2.2.1 v.2.2.2.2.1).1 = 20 := by rw [ew1]; show (kUp v.2.2.2.1 v.2.2.2.2.1 (20, _) v.2.2.2.2.1).1 = 20; rw [kUp_s]
      refine kjZ_y rfl rfl 1 _ _ _ _ tw1 ?_
      refine (And.intro (tw1.k (by decide) rfl) (And.intro (Or.inl ⟨rfl, by assumption⟩) (fun tw1' => ?_)))
      have go2 : ∀ w, kTY w → grP v (59, 3) ri NK (2 * vs.length) 20 w → kjY kPP (kQQ Y) (d + 3) 134 39 [some (.ref 59), some (.ref σ.2.2.2.2.1), some (.int x2)] [] w (avP σ il sl vs M T) := by
        intro w tw gp
        have pw := gp.q.pot (c := vs.length + 1) tv (by decide) pv f3 f3d (by show _ ≤ 2600; omega) (by omega)
        have oww := gp.q.ow tv ov
        have cw := gp.q.ch (vs := true) tv (by decide)
        obtain ⟨h1, h2, h3, h4, h5, h6, h7, h8⟩ := gp
        have k4 : w.2.2.1 59 4 = some rs := by rw [h5 59 4 (by omega) (by decide), g5 59 4 (by omega) (by decide)]; exact i3
        have k4d : w.2.2.2.1 rs = (20, NK) := by rw [(h4 rs (by omega)).2.2, (g4 rs lrs).2.2]; exact i4
        have f6w : w.1 59 6 = nI vs.length := by rw [(h4 59 (by omega)).1]; exact f6
        have e2w : Int32.ofInt 2 * w.1 59 6 = nI (2 * vs.length) := by rw [f6w, nI_2]
        have ek4 : kl w (59, 4) = NK := by unfold kl; show (w.2.2.2.1 ((w.2.2.1 59 4).getD 0)).2 = NK; rw [k4]; show (w.2.2.2.1 rs).2 = NK; rw [k4d]
        have pay4 := POT.pay (p := (59, 4)) (c := vs.length + 1) (N := 2 * vs.length) (by decide) pw (by rw [ek4]; omega) (by show _ ≤ 2600; omega) (by rw [ek4]; omega)
        refine kjZ_y rfl rfl 8 _ _ _ _ tw ?_
        refine (And.intro (tw.k (by decide) rfl) (Exists.intro _ (And.intro k4 (And.intro (tw.k (by decide) rfl) (And.intro (Nat.le_of_ble_eq_true rfl) (And.intro (Nat.le_of_ble_eq_true rfl) (And.intro (Nat.le_of_ble_eq_true rfl) (kjY_mono tw (fun q_ y1 ty1 xy1 h_ => ?_) (k_copyI tw rs NK (2 * vs.length) k4d _ e2w (by omega) (by omega) pay4.2.1 pay4.1)))))))))
        obtain ⟨rfl, ey1⟩ := h_
        intro _ _
        have kn4 : (y1.2.2.2.1 w.2.2.2.2.1).1 = 20 := by rw [ey1]; show (kUp w.2.2.2.1 w.2.2.2.2.1 (20, _) w.2.2.2.2.1).1 = 20; rw [kUp_s]
        refine kjZ_y rfl rfl 1 _ _ _ _ ty1 ?_
        refine (And.intro (ty1.k (by decide) rfl) (And.intro (Or.inl ⟨rfl, by assumption⟩) (fun ty1' => ?_)))
        have go3 : ∀ z, kTY z → grP w (59, 4) rs NK (2 * vs.length) 20 z → kjY kPP (kQQ Y) (d + 3) 134 48 [some (.ref 59), some (.ref σ.2.2.2.2.1), some (.int x2)] [] z (avP σ il sl vs M T) := by
          intro z tz gz
          have pz := gz.q.pot (c := vs.length + 1) tw (by decide) pw k4 k4d (by show _ ≤ 2600; omega) (by omega)
          have oz := gz.q.ow tw oww
          have cz := gz.q.ch (vs := true) tw (by decide)
          obtain ⟨l1, l2, l3, l4, l5, l6, l7, l8⟩ := gz
          have hv : σ.2.2.2.2.1 < v.2.2.2.2.1 := by omega
          have hw : v.2.2.2.2.1 < w.2.2.2.2.1 := by omega
          refine k_addV2 ty tz oz pz (hGo.grow3 (ri' := v.2.2.2.2.1) (rs' := w.2.2.2.2.1) (rh' := σ.2.2.2.2.1) (NK' := 2 * vs.length) ty (fun h hh => ?_) (fun h y hh hp => ?_) ⟨⟨?_, ?_⟩, fun j hj => ?_⟩ ⟨⟨l1, l2⟩, fun j hj => ?_⟩ ⟨⟨?_, ?_⟩, fun j hj => ?_⟩ ⟨by omega, by omega⟩) (by omega) hm ?_ _ _
          · obtain ⟨q1, q2, q3⟩ := l4 h (by omega)
            obtain ⟨r1, r2, r3⟩ := h4 h (by omega)
            obtain ⟨t1, t2, t3⟩ := g4 h hh
            exact ⟨q1.trans (r1.trans t1), q2.trans (r2.trans t2), q3.trans (r3.trans t3)⟩
          · rw [l5 h y (by omega) (fun q => hp (by rw [q]; decide)), h5 h y (by omega) (fun q => hp (by rw [q]; decide)), g5 h y hh (fun q => hp (by rw [q]; decide))]
          · rw [l5 59 3 (by omega) (by decide)]; exact h1
          · rw [(l4 v.2.2.2.2.1 hw).2.2]; exact h2
          · rw [(l4 v.2.2.2.2.1 hw).1, h3 j hj, (g4 ri lri).1]
          · rw [l3 j hj, (h4 rs (by omega)).1, (g4 rs lrs).1]
          · rw [l5 59 5 (by omega) (by decide), h5 59 5 (by omega) (by decide)]; exact g1
          · rw [(l4 σ.2.2.2.2.1 (by omega)).2.2, (h4 σ.2.2.2.2.1 hv).2.2]; exact g2
          · rw [l5 σ.2.2.2.2.1 j (by omega) (fun q => by have := congrArg Prod.fst q; have : σ.2.2.2.2.1 = 59 := this; omega), h5 σ.2.2.2.2.1 j hv (fun q => by have := congrArg Prod.fst q; have : σ.2.2.2.2.1 = 59 := this; omega)]; exact hF j hj
          · have up : ∀ {p : Nat × Nat} {a b : kS}, p ∈ avO → Ch true [p] [p] a b → Ch true avF avO a b := fun hp hc => hc.up (fun z => z) (fun q hq => by rw [List.mem_singleton.mp hq]; exact List.mem_append_left [(59, 6)] hp) (fun q hq => by rw [List.mem_singleton.mp hq]; exact hp)
            exact Ch.tr ty (by decide) (Ch.tr ty (by decide) (up (by decide) cv) (up (by decide) cw)) (up (by decide) cz)
        refine go3 _ ty1' ?_
        rw [ey1]
        exact gr_of (p := (59, 4)) tw (tw.lr k4d (by decide)) ⟨pay4.2.1, pay4.1⟩
      refine go2 _ tw1' ?_
      rw [ew1]
      exact gr_of (p := (59, 3)) tv (tv.lr f3d (by decide)) ⟨pay3.2.1, pay3.1⟩
    exact go1 _ tv1' rfl
  · refine ⟨fun h hh => ⟨kUp_n (by omega), kUp_n (by omega), kUp_n (by omega), kUp_n (by omega)⟩, kUp_s, fun j hj => absurd hj (Nat.not_lt_zero j), ⟨rfl, by show σ.2.2.2.2.2.1 - 1 + 1 = _; have := pay5.2.1; omega, by show σ.2.2.2.2.2.2 - 2 * vs.length + 2 * vs.length = _; have := pay5.1; omega⟩, kNew_ex pay5.2.1⟩
end KADDV2
