/-! HINCRBY, whole. -/
theorem ovI_0 (a b : Int64) : ovI a b = 0 ↔ ¬ ovW false a b < 0 := by
  unfold ovI ovW
  rw [if_neg Bool.false_ne_true]
  by_cases c : (0 : Int32) ≤ lg_cmp ((a ^^^ (a + b)) &&& (b ^^^ (a + b))) 0
  · rw [if_pos c]
    exact ⟨fun _ => Int64.not_lt.mpr ((lg_cmp_ge _ _).mp c), fun _ => rfl⟩
  · rw [if_neg c]
    exact ⟨fun z => absurd z (by decide), fun z => absurd ((lg_cmp_ge _ _).mpr (Int64.not_lt.mp z)) c⟩
section KHINCR2
variable {Y : Nat → MethodName × ByteArray} {d : Nat} {σ0 σ u : kS} {B ws nm nm' : List (List Int32)} {ks : List KC}
set_option maxHeartbeats 1000000 in
theorem kx_hi61 (ty : kTY σ) (w : KWd σ0 B σ ws nm ks) (hr : RSD ks) (hB : BOK B ws) {k kf : Nat} {v f : List Int32} (hk : nm[k]? = some v) (hkf : nm[kf]? = some f) (hS : ∀ x ∈ ks, x.2.2.2.2.2.2.1 = 2 → SP x.2.2.2.2.2.2.2.2.2.2) (hk1 : ks.length + 1 ≤ 2600) (hcl : 3 * (clA (skA ks) + 2) ≤ 49000) (hso : ¬ soT (skA ks) v (nI 2) = false) {N : Int64} (en : σ.2.1 53 9 = N) (hBN : dec N ∈ B) (n1 : Int64) (x3 x4 x5 : Int32) (e3 : x3 = nI k) (e4 : x4 = nI kf) :
    kjY kPP (kQQ Y) (d + 7) 217 61 [some (.ref 71), some (.long n1), none, some (.int x3), some (.int x4), some (.int x5), none] [] σ (fun r z => r = none ∧ cdS σ0 B σ ws nm (upA (orA (skA ks) v 2).1 (orA (skA ks) v 2).2 (esF (hpE f (dec N)))) z) := by
  have hb : 72 ∈ ANn := by decide
  refine kjZ_y rfl rfl 3 _ _ _ _ ty ?_
  refine (And.intro (ty.k (by decide) rfl) (And.intro (Nat.le_of_ble_eq_true rfl) (And.intro (Or.inl ⟨(Nat.le_of_ble_eq_true rfl), (ty.k (by decide) rfl)⟩) (And.intro (Nat.le_of_ble_eq_true rfl) (And.intro (Nat.le_of_ble_eq_true rfl) (kjY_mono ty (fun q_ u1 ty1 xu1 h_ => ?_) (k_empty ty 72 (ob_k ty (by decide)))))))))
  obtain ⟨rfl, eu1⟩ := h_
  intro _ _
  obtain ⟨w1, b1, c1, s1⟩ := w.emp ty hb eu1
  have en1 : u1.2.1 53 9 = N := (s1 (53, 9) (by decide)).2.1.trans en
  refine kjZ_y rfl rfl 6 _ _ _ _ ty1 ?_
  refine (And.intro (ty1.k (by decide) rfl) (And.intro (ty1.k (by decide) rfl) (And.intro (ty1.k (by decide) rfl) (And.intro (Nat.le_of_ble_eq_true rfl) (And.intro (Or.inl ⟨(Nat.le_of_ble_eq_true rfl), (ty1.k (by decide) rfl)⟩) (And.intro (Nat.le_of_ble_eq_true rfl) (And.intro (Nat.le_of_ble_eq_true rfl) (kjY_mono ty1 (fun q_ u2 ty2 xu2 h_ => ?_) (k_digits ty1 w1.2.1.1 (b := 72) (by decide) b1 (u1.2.1 53 9) (opQ_an hb w1.2.1.2 _))))))))))
  have q := h_
  intro _ _
  obtain ⟨rfl, w2, s2⟩ := w1.op ty1 hb q
  obtain ⟨-, -, -, -, l', b2, q2⟩ := q
  obtain ⟨q2, -⟩ := q2 c1 (by have := dec_20 (u1.2.1 53 9); rw [List.length_nil]; show _ ≤ 32; omega)
  rw [List.nil_append, en1] at q2
  subst q2
  refine kjZ_y rfl rfl 5 _ _ _ _ ty2 ?_
  refine (And.intro (ty2.k (by decide) rfl) (And.intro (Nat.le_of_ble_eq_true rfl) (And.intro (Or.inl ⟨(Nat.le_of_ble_eq_true rfl), (ty2.k (by decide) rfl)⟩) (And.intro (Nat.le_of_ble_eq_true rfl) (And.intro (Nat.le_of_ble_eq_true rfl) (kjY_mono ty2 (fun q_ u3 ty3 xu3 h_ => ?_) (kx_orMake2 ty2 w2 hk (s := 2) (by decide) (fun _ => hk1) _ _ e3 rfl)))))))
  obtain ⟨⟨P, x, Q, rfl, w3, s3, g1, g2⟩, kb3⟩ := h_
  intro _ _
  obtain ⟨r, M, m1, m2, m3, m4, m5, m6, m7⟩ := kb3.1 72 _ hb b2
  obtain ⟨hs2, hrs, hclx, hky, hor, hxe⟩ := om_w (s := 2) hr (by decide) hso w3 g1 g2
  have hs2 : x.2.2.2.2.2.2.1 = 2 := hs2
  have hs0 : ¬ x.2.2.2.2.2.2.1 = 0 := by rw [hs2]; decide
  have hSP : SP x.2.2.2.2.2.2.2.2.2.2 := hxe.elim (fun z => by rw [z]; exact List.Pairwise.nil) (fun z => hS x z hs2)
  have kv3 := (w3.sz hs0).2.2
  have hor : orA (skA ks) v 2 = (skA (P ++ x :: Q), P.length) := hor
  have hpt : ptI x.2.2.2.2.2.2.1 = 2 := by rw [hs2]; rfl
  have hlx : 2 * x.2.2.2.2.2.2.2.2.2.2.length ≤ clA (skA (P ++ x :: Q)) := by rw [clA_at, hpt]; omega
  refine kjZ_y rfl rfl 14 _ _ _ _ ty3 ?_
  refine (And.intro (Nat.le_of_ble_eq_true rfl) (And.intro (ty3.k (by decide) rfl) (And.intro (ty3.k (by decide) rfl) (And.intro (ty3.k (by decide) rfl) (Exists.intro _ (And.intro m1 (And.intro (ty3.k (by decide) rfl) (And.intro (ty3.k (by decide) rfl) (And.intro (Nat.le_of_ble_eq_true rfl) (And.intro (Or.inl ⟨(Nat.le_of_ble_eq_true rfl), (ty3.k (by decide) rfl)⟩) (And.intro (Nat.le_of_ble_eq_true rfl) (And.intro (Nat.le_of_ble_eq_true rfl) (kjY_mono ty3 (fun q_ u4 ty4 xu4 h_ => ?_) (kx_idOf ty3 w3 hB m2 m3.2 (a := 0) (n := (dec N).length) (by omega) (fun z => absurd (w3.2.1.1 (72, 1) (by decide) (48, 0) (by decide) (m1.trans z.symm)) (by decide)) (by rw [m7]; exact hBN) _ _ rfl m5))))))))))))))
  have q4 := h_
  intro _ _
  rw [m7] at q4
  obtain ⟨kn, nm4, rfl, p4, p5, w4, s4⟩ := q4
  have kv4 : (u4.2.2.2.1 x.1).1 = 11 := xu4.k ty3 kv3 (by decide)
  refine kjZ_y rfl rfl 1 _ _ _ _ ty4 ?_
  refine (And.intro (Nat.le_of_ble_eq_true rfl) (And.intro (Or.inl ⟨(Nat.le_of_ble_eq_true rfl), (ty4.k (by decide) rfl)⟩) (And.intro (Nat.le_of_ble_eq_true rfl) (And.intro (Nat.le_of_ble_eq_true rfl) (kjY_mono ty4 (fun q_ u7 ty7 xu7 h_ => ?_) (kx_setF ty4 w4 hs2 hrs.2 hSP (p5.get hkf) p4 (by omega) _ _ e4 rfl))))))
  obtain ⟨⟨z, rfl⟩, w7, s7⟩ := h_
  intro _ _
  have kv7 : (u7.2.2.2.1 x.1).1 = 11 := xu7.k ty4 kv4 (by decide)
  have hne : ¬ emB (mkK x (esF (hpE f (dec N)) x.2.2.2.2.2)) := fun z => by
    have := (hpE_len f (dec N) x.2.2.2.2.2.2.2.2.2.2).2
    have z2 : hpE f (dec N) x.2.2.2.2.2.2.2.2.2.2 = [] := z.2
    rw [z2] at this; exact absurd this (by simp)
  refine kjZ_y rfl rfl 6 _ _ _ _ ty7 ?_
  refine (And.intro (ty7.k (by decide) rfl) (And.intro (Nat.le_of_ble_eq_true rfl) (And.intro (Or.inl ⟨(Nat.le_of_ble_eq_true rfl), (ty7.k (by decide) rfl)⟩) (And.intro (Nat.le_of_ble_eq_true rfl) (And.intro (Nat.le_of_ble_eq_true rfl) (kjY_mono ty7 (fun q_ u8 ty8 xu8 h_ => ?_) (kx_settle (x := mkK x (esF (hpE f (dec N)) x.2.2.2.2.2)) ty7 w7 (k := k) (by show nm4[k]? = some x.2.2.2.2.2.1; rw [g1]; exact p5.get hk) _ e3)))))))
  obtain ⟨q9, q9b⟩ := h_
  intro _ _
  obtain ⟨rfl, nmA, ksA, pA5, wA, rA, eA, cA, sA5⟩ := cd_se (σ := σ) p5 (((s1.tr s2).tr (s3.tr (s4.tr s7))).g) ⟨q9, q9b⟩ (wkO_mk _ _) hrs.1 (fun z => absurd z hne) (fun _ => rfl)
  obtain ⟨b, hb, eb⟩ := wA.2.2.2.2.2.2.1
  have kb := ob_k ty8 (ANn_b b (ANb_n b hb)).1
  refine kjZ_y rfl rfl 7 _ _ _ _ ty8 ?_
  refine (And.intro (ty8.k (by decide) rfl) (And.intro (ty8.k (by decide) rfl) (Exists.intro _ (And.intro eb (And.intro (ty8.k (by decide) rfl) (And.intro (ty8.k (by decide) rfl) (And.intro (Nat.le_of_ble_eq_true rfl) (And.intro (Or.inl ⟨(Nat.le_of_ble_eq_true rfl), (by assumption)⟩) (And.intro (Nat.le_of_ble_eq_true rfl) (And.intro (Nat.le_of_ble_eq_true rfl) (kjY_mono ty8 (fun q_ u9 ty9 xu9 h_ => ?_) (kx_number ty8 wA hb _))))))))))))
  obtain ⟨rfl, w9, s9⟩ := h_
  intro _ _
  refine kjZ_y rfl rfl 1 _ _ _ _ ty9 ?_
  refine And.intro rfl (And.intro rfl ?_)
  refine ⟨rfl, nmA, ksA, pA5, w9, rA, ?_, (s9 (59, 18) (by decide)).1.trans cA, sA5.tr s9.g⟩
  rw [eA, hor]
  show _ = upA (skA (P ++ x :: Q)) P.length _
  rw [skA_app, skA_app, skA_cons, skA_cons, ← skA_len P, upA_at]; rfl
theorem vhA_k {P Q : List KC} {y : KC} {v f : List Int32} (f2 : kyI (skA (P ++ y :: Q)) v = some P.length) : vhA (skA (P ++ y :: Q)) v f = (match fvE f y.2.2.2.2.2.2.2.2.2.2 with | none => some 0 | some t => intF t) := by
  unfold vhA fvE; rw [f2]
  show (match (skA (P ++ y :: Q))[P.length]? with | none => _ | some a => _) = _
  rw [skA_at]
  show (if skT f y.2.2.2.2.2.2.2.2.2.2 = true then _ else _) = _
  by_cases c : skT f y.2.2.2.2.2.2.2.2.2.2 = true
  · obtain ⟨z, h1, -, -⟩ := skT_at c
    rw [if_pos c, if_pos c, h1]; rfl
  · rw [if_neg c, if_neg c]
set_option maxHeartbeats 1000000 in
theorem kx_hincr (ty : kTY σ) (w : KWd σ0 B σ ws nm ks) (hr : RSD ks) (hB : BOK B ws) {j : Nat} (hj : CMD σ j) {v f a3 : List Int32} (hv : ws[1]? = some v) (h2 : ws[2]? = some f) (h3 : ws[3]? = some a3) (hS : ∀ x ∈ ks, x.2.2.2.2.2.2.1 = 2 → SP x.2.2.2.2.2.2.2.2.2.2) (hk1 : ks.length + 1 ≤ 2600) (hcl : 3 * (clA (skA ks) + 2) ≤ 49000) (hBN : ∀ n m, intF a3 = some n → vhA (skA ks) v f = some m → dec (m + n) ∈ B) {o : Option (List AK)} (ho0 : intF a3 = none → o = none) (ho2 : rfZ (σ.1 59 17) ks j v 2 → o = none) (ho3 : ∀ n, intF a3 = some n → ¬ rfZ (σ.1 59 17) ks j v 2 → o = hiF (skA ks) v f n) :
    kjY kPP (kQQ Y) (d + 7) 217 0 (mjL0 7 [.ref 71]) [] σ (cdP σ0 B σ ws nm ks o) := by
  have hlen := (List.getElem?_eq_some_iff.mp hv).1
  refine kjZ_y rfl rfl 4 _ _ _ _ ty ?_
  refine (And.intro (ty.k (by decide) rfl) (And.intro (Nat.le_of_ble_eq_true rfl) (And.intro (Or.inl ⟨(Nat.le_of_ble_eq_true rfl), (ty.k (by decide) rfl)⟩) (And.intro (Nat.le_of_ble_eq_true rfl) (And.intro (Nat.le_of_ble_eq_true rfl) (kjY_mono ty (fun q_ u0 ty0 xu0 h_ => ?_) (kx_lacksInteger ty w h3 _ rfl)))))))
  obtain ⟨w0, s0, q⟩ := h_
  intro _ _
  have hH := s0.sub scHB
  rcases q with ⟨n, q1, rfl, e9⟩ | ⟨q1, rfl⟩
  rotate_left
  · refine kjZ_y rfl rfl 1 _ _ _ _ ty0 ?_
    refine And.intro (fun c => ?_) (fun c => ?_)
    · exact absurd (show (1 : Int32) = 0 from c) (by decide)
    refine kjZ_y rfl rfl 1 _ _ _ _ ty0 ?_
    refine And.intro rfl (And.intro rfl ?_)
    exact cd_no PRE.rf w0 hr hH (ho0 q1)
  refine kjZ_y rfl rfl 1 _ _ _ _ ty0 ?_
  refine And.intro (fun c => ?_) (fun c => ?_)
  rotate_left
  · exact absurd rfl c
  have go10 : kjY kPP (kQQ Y) (d + 7) 217 10 [some (.ref 71), some (.long n), none, none, none, none, none] [] u0 (cdP σ0 B σ ws nm ks o) := by
    refine kjZ_y rfl rfl 6 _ _ _ _ ty0 ?_
    refine (And.intro (ty0.k (by decide) rfl) (And.intro (Nat.le_of_ble_eq_true rfl) (And.intro (Or.inl ⟨(Nat.le_of_ble_eq_true rfl), (ty0.k (by decide) rfl)⟩) (And.intro (Nat.le_of_ble_eq_true rfl) (And.intro (Nat.le_of_ble_eq_true rfl) (kjY_mono ty0 (fun q_ u1 ty1 xu1 h_ => ?_) (kx_refuses ty0 w0 hB (hj.sc hH) (a := 1) (b := 1) (by omega) (by omega) (s := 2) (by decide) _ _ _ rfl rfl rfl)))))))
    obtain ⟨nm1, p1, w1, s1, q⟩ := h_
    intro _ _
    rw [rf1 w0 hv, (hH (59, 17) (by decide)).1] at q
    rcases q with ⟨rfl, q⟩ | ⟨rfl, q⟩
    · refine kjZ_y rfl rfl 1 _ _ _ _ ty1 ?_
      refine And.intro (fun c => ?_) (fun c => ?_)
      · exact absurd (show (1 : Int32) = 0 from c) (by decide)
      refine kjZ_y rfl rfl 1 _ _ _ _ ty1 ?_
      refine And.intro rfl (And.intro rfl ?_)
      exact cd_no p1 w1 hr (hH.tr s1.h) (ho2 q)
    have ho := ho3 n q1 q
    have hso := fun z => q (Or.inr z)
    refine kjZ_y rfl rfl 1 _ _ _ _ ty1 ?_
    refine And.intro (fun c => ?_) (fun c => ?_)
    rotate_left
    · exact absurd rfl c
    refine kjZ_y rfl rfl 4 _ _ _ _ ty1 ?_
    refine (And.intro (ty1.k (by decide) rfl) (And.intro (Nat.le_of_ble_eq_true rfl) (And.intro (Or.inl ⟨(Nat.le_of_ble_eq_true rfl), (ty1.k (by decide) rfl)⟩) (And.intro (Nat.le_of_ble_eq_true rfl) (And.intro (Nat.le_of_ble_eq_true rfl) (kjY_mono ty1 (fun q_ u2 ty2 xu2 h_ => ?_) (kx_id ty1 w1 hB hv _ rfl)))))))
    obtain ⟨k, nm2, rfl, p2, p3, w2, s2⟩ := h_
    intro _ _
    refine kjZ_y rfl rfl 5 _ _ _ _ ty2 ?_
    refine (And.intro (Nat.le_of_ble_eq_true rfl) (And.intro (ty2.k (by decide) rfl) (And.intro (Nat.le_of_ble_eq_true rfl) (And.intro (Or.inl ⟨(Nat.le_of_ble_eq_true rfl), (ty2.k (by decide) rfl)⟩) (And.intro (Nat.le_of_ble_eq_true rfl) (And.intro (Nat.le_of_ble_eq_true rfl) (kjY_mono ty2 (fun q_ u3 ty3 xu3 h_ => ?_) (kx_id ty2 w2 hB h2 _ rfl))))))))
    obtain ⟨kf, nm3, rfl, p4, p5, w3, s3⟩ := h_
    intro _ _
    have p2' := p5.get p2
    have sA := hH.tr ((s1.tr s2).tr s3).h
    have pA := (p1.tr p3).tr p5
    refine kjZ_y rfl rfl 6 _ _ _ _ ty3 ?_
    refine (And.intro (Nat.le_of_ble_eq_true rfl) (And.intro (ty3.k (by decide) rfl) (And.intro (Nat.le_of_ble_eq_true rfl) (And.intro (Or.inl ⟨(Nat.le_of_ble_eq_true rfl), (ty3.k (by decide) rfl)⟩) (And.intro (Nat.le_of_ble_eq_true rfl) (And.intro (Nat.le_of_ble_eq_true rfl) (kjY_mono ty3 (fun q_ u4 ty4 xu4 h_ => ?_) (kx_find ty3 w3 p2' _ rfl))))))))
    obtain ⟨rfl, q3⟩ := h_
    intro _ _
    -- a number stands
    have s54 : ∀ (z : kS) (m : Int64) (x5 : Int32), kTY z → KWd σ0 B z ws nm3 ks → SCl scH σ z → z.2.1 53 9 = m → vhA (skA ks) v f = some m → kjY kPP (kQQ Y) (d + 7) 217 54 [some (.ref 71), some (.long n), none, some (.int (nI k)), some (.int (nI kf)), some (.int x5), none] [] z (cdP σ0 B σ ws nm ks o) := by
      intro z m x5 tz wz sz em hvm
      have ho : o = if ovI m n = 0 then some (upA (orA (skA ks) v 2).1 (orA (skA ks) v 2).2 (esF (hpE f (dec (m + n))))) else none := by rw [ho]; unfold hiF; rw [hvm]
      refine kjZ_y rfl rfl 5 _ _ _ _ tz ?_
      refine (And.intro (tz.k (by decide) rfl) (And.intro (Nat.le_of_ble_eq_true rfl) (And.intro (Or.inl ⟨(Nat.le_of_ble_eq_true rfl), (tz.k (by decide) rfl)⟩) (And.intro (Nat.le_of_ble_eq_true rfl) (And.intro (Nat.le_of_ble_eq_true rfl) (kjY_mono tz (fun q_ u5 ty5 xu5 h_ => ?_) (kx_overflows tz wz _ false _ rfl)))))))
      obtain ⟨w5, s5, q5⟩ := h_
      intro _ _
      rw [em] at q5
      rcases q5 with ⟨q5, rfl⟩ | ⟨q5, rfl, e5⟩
      · refine kjZ_y rfl rfl 1 _ _ _ _ ty5 ?_
        refine And.intro (fun c2 => ?_) (fun c2 => ?_)
        · exact absurd (show (1 : Int32) = 0 from c2) (by decide)
        refine kjZ_y rfl rfl 1 _ _ _ _ ty5 ?_
        refine And.intro rfl (And.intro rfl ?_)
        exact cd_no pA w5 hr (sz.tr (s5.sub scHB)) (by rw [ho, if_neg (fun y => (ovI_0 m n).mp y q5)])
      refine kjZ_y rfl rfl 1 _ _ _ _ ty5 ?_
      refine And.intro (fun c2 => ?_) (fun c2 => ?_)
      rotate_left
      · exact absurd rfl c2
      refine kjY_mono ty5 (fun r z2 tz2 xz2 hz => ?_) (kx_hi61 (d := d) ty5 w5 hr hB p2' p4 hS hk1 hcl hso (N := m + n) e5 (hBN n m q1 hvm) n _ _ x5 rfl rfl)
      obtain ⟨hr0, hz⟩ := hz
      rw [hr0]
      exact cd_S ((sz.tr (s5.sub scHB)).sub scGH) pA hz (by rw [ho, if_pos ((ovI_0 m n).mpr q5)])
    -- with the field's word
    have s35 : ∀ (x5 : Int32) (ot : Option (List Int32)), ((ot = none ∧ x5 = -1) ∨ ∃ t kk, ot = some t ∧ x5 = nI kk ∧ nm3[kk]? = some t) → vhA (skA ks) v f = (match ot with | none => some 0 | some t => intF t) → kjY kPP (kQQ Y) (d + 7) 217 35 [some (.ref 71), some (.long n), none, some (.int (nI k)), some (.int (nI kf)), none, none] [.int x5] u4 (cdP σ0 B σ ws nm ks o) := by
      intro x5 ot h5 hvh
      refine kjZ_y rfl rfl 5 _ _ _ _ ty4 ?_
      refine (And.intro (Nat.le_of_ble_eq_true rfl) (And.intro (ty4.k (by decide) rfl) (And.intro (ty4.k (by decide) rfl) (And.intro rfl (fun ty4' => ?_)))))
      have w5 := w3.pl ty4 (h := 53) (x := 9) (v := Int64.ofNat 0) (by decide)
      have s5 : SCl scC u4 (u4.1, mjLu u4.2.1 53 9 (Int64.ofNat 0), u4.2.2) := SCl.l (h := 53) (x := 9) (v := Int64.ofNat 0) (by decide +kernel)
      have e5 : mjLu u4.2.1 53 9 (Int64.ofNat 0) 53 9 = 0 := mjLu_p
      have go : ∀ z, kTY z → z = (u4.1, mjLu u4.2.1 53 9 (Int64.ofNat 0), u4.2.2) → kjY kPP (kQQ Y) (d + 7) 217 40 [some (.ref 71), some (.long n), none, some (.int (nI k)), some (.int (nI kf)), some (.int x5), none] [] z (cdP σ0 B σ ws nm ks o) := by
        intro z tz ez
        rw [← ez] at w5 s5
        have e5 : z.2.1 53 9 = 0 := by rw [ez]; exact e5
        have hHz := sA.tr (s5.sub scHC)
        rcases h5 with ⟨h5, h6⟩ | ⟨t, kk, h5, h6, h7⟩
        · refine kjZ_y rfl rfl 2 _ _ _ _ tz ?_
          refine And.intro (fun c2 => ?_) (fun c2 => ?_)
          · exact s54 z 0 x5 tz w5 hHz e5 (by rw [hvh, h5])
          · exact absurd (show x5 < 0 by rw [h6]; decide) c2
        · have hkk : kk < nm3.length := (List.getElem?_eq_some_iff.mp h7).1
          have hnl : nm3.length < 2 ^ 30 := by
            obtain ⟨rb, NB, rs, NS, rc, -, ⟨-, -, -, -, k5, -⟩, k1, -⟩ := w3.2.2.1.1
            omega
          refine kjZ_y rfl rfl 2 _ _ _ _ tz ?_
          refine And.intro (fun c2 => ?_) (fun c2 => ?_)
          · exact absurd (show x5 < 0 from c2) (by rw [h6]; exact nI_n0 (by omega))
          refine kjZ_y rfl rfl 6 _ _ _ _ tz ?_
          refine (And.intro (tz.k (by decide) rfl) (And.intro (tz.k (by decide) rfl) (And.intro (Nat.le_of_ble_eq_true rfl) (And.intro (Or.inl ⟨(Nat.le_of_ble_eq_true rfl), (tz.k (by decide) rfl)⟩) (And.intro (Nat.le_of_ble_eq_true rfl) (And.intro (Nat.le_of_ble_eq_true rfl) (kjY_mono tz (fun q_ u6 ty6 xu6 h_ => ?_) (kx_isInteger tz w5.2.2.1.1 h7 _ h6))))))))
          have q6 := h_
          intro _ _
          cases hi : intF t with
          | none =>
            rw [hi] at q6
            obtain ⟨rfl, rfl⟩ : q_ = some (.int 0) ∧ u6 = z := q6
            refine kjZ_y rfl rfl 1 _ _ _ _ ty6 ?_
            refine And.intro (fun c3 => ?_) (fun c3 => ?_)
            · exact absurd rfl c3
            refine kjZ_y rfl rfl 4 _ _ _ _ ty6 ?_
            refine (And.intro (ty6.k (by decide) rfl) (And.intro rfl (And.intro (Nat.le_of_ble_eq_true rfl) (And.intro (Or.inl ⟨(Nat.le_of_ble_eq_true rfl), (ty6.k (by decide) rfl)⟩) (And.intro (Nat.le_of_ble_eq_true rfl) (And.intro (Nat.le_of_ble_eq_true rfl) (kjY_mono ty6 (fun q_ u7 ty7 xu7 h_ => ?_) (kx_refuse ty6 w5 (by decide)))))))))
            obtain ⟨rfl, w7, s7⟩ := h_
            intro _ _
            refine kjZ_y rfl rfl 1 _ _ _ _ ty7 ?_
            refine And.intro rfl (And.intro rfl ?_)
            refine cd_no pA w7 hr (hHz.tr s7.h) ?_
            rw [ho]; unfold hiF; rw [hvh, h5]; show (match intF t with | none => none | some v => _) = _; rw [hi]
          | some m =>
            rw [hi] at q6
            obtain ⟨rfl, eu6⟩ : q_ = some (.int 1) ∧ u6 = (z.1, mjLu z.2.1 53 9 m, z.2.2) := q6
            have w6 : KWd σ0 B u6 ws nm3 ks := by rw [eu6]; exact w5.pl tz (by decide)
            have s6 : SCl scC z u6 := by rw [eu6]; exact SCl.l (h := 53) (x := 9) (by decide +kernel)
            have e6 : u6.2.1 53 9 = m := by rw [eu6]; show mjLu z.2.1 53 9 m 53 9 = m; exact mjLu_p
            refine kjZ_y rfl rfl 1 _ _ _ _ ty6 ?_
            refine And.intro (fun c3 => ?_) (fun c3 => ?_)
            rotate_left
            · exact absurd (show ¬ (1 : Int32) = 0 by decide) c3
            exact s54 u6 m x5 ty6 w6 (hHz.tr (s6.sub scHC)) e6 (by rw [hvh, h5]; exact hi)
      exact go _ ty4' rfl
    rcases q3 with ⟨rfl, q3⟩ | ⟨P, y, Q, rfl, f0, f1, f2⟩
    · refine kjZ_y rfl rfl 2 _ _ _ _ ty4 ?_
      refine (And.intro (Nat.le_of_ble_eq_true rfl) (And.intro (Or.inl ⟨(Nat.le_of_ble_eq_true rfl), (ty4.k (by decide) rfl)⟩) (And.intro (Nat.le_of_ble_eq_true rfl) (And.intro (Nat.le_of_ble_eq_true rfl) (kjY_mono ty4 (fun q_ u5 ty5 xu5 h_ => ?_) (kx_valueOf0 (nm := nm3) ty4 _))))))
      obtain ⟨rfl, q5⟩ := h_
      intro _ _
      rcases q5 with ⟨-, rfl⟩ | ⟨t, kk, q5, -⟩
      · exact s35 _ none (Or.inl ⟨rfl, rfl⟩) (by unfold vhA; rw [q3])
      · cases q5
    · subst f0
      have hs2 : y.2.2.2.2.2.2.1 = 2 := so_1 (s := 2) f2 hso
      have hs0 : ¬ y.2.2.2.2.2.2.1 = 0 := by rw [hs2]; decide
      have kv := (w3.sz hs0).2.2
      have hSP := hS y (List.mem_append_right _ List.mem_cons_self) hs2
      refine kjZ_y rfl rfl 2 _ _ _ _ ty4 ?_
      refine (And.intro (Nat.le_of_ble_eq_true rfl) (And.intro (Or.inl ⟨(Nat.le_of_ble_eq_true rfl), (ty4.k (by decide) rfl)⟩) (And.intro (Nat.le_of_ble_eq_true rfl) (And.intro (Nat.le_of_ble_eq_true rfl) (kjY_mono ty4 (fun q_ u5 ty5 xu5 h_ => ?_) (kx_valueOf ty4 w3 hs2 hSP p4 _ rfl))))))
      obtain ⟨rfl, q5⟩ := h_
      intro _ _
      have hvh := vhA_k (f := f) f2
      rcases q5 with ⟨q5, rfl⟩ | ⟨t, kk, q5, rfl, q6⟩
      · exact s35 _ none (Or.inl ⟨rfl, rfl⟩) (by rw [hvh, q5])
      · exact s35 _ (some t) (Or.inr ⟨t, kk, rfl, rfl, q6⟩) (by rw [hvh, q5])
  have go : ∀ n' : Int64, n' = n → kjY kPP (kQQ Y) (d + 7) 217 10 [some (.ref 71), some (.long n'), none, none, none, none, none] [] u0 (cdP σ0 B σ ws nm ks o) := fun n' e => by rw [e]; exact go10
  refine kjZ_y rfl rfl 4 _ _ _ _ ty0 ?_
  refine (And.intro (ty0.k (by decide) rfl) (And.intro (ty0.k (by decide) rfl) (And.intro (Nat.le_of_ble_eq_true rfl) ?_)))
  exact go _ e9
end KHINCR2
