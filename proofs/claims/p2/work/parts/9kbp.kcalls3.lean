/-! The class's calls, over one invariant: pass, restart, rewrite. -/
section KCALLS3
variable {Y : Nat → MethodName × ByteArray} {d : Nat} {s u z : kS} {f : Nat} {B : List (List Int32)}
theorem IA_TLo {ks : List KC} (h : IA (skA ks)) : TLo ks := fun y hy => by
  have ha := h.2 _ (List.mem_map.mpr ⟨y, hy, rfl⟩)
  obtain ⟨-, -, -, -, ht, hs⟩ := ha
  refine ⟨?_, fun w => ?_⟩
  · rcases hs with e | e | e | e | e
    · exact ⟨0, by decide, e⟩
    · exact ⟨1, by decide, e⟩
    · exact ⟨2, by decide, e⟩
    · exact ⟨3, by decide, e⟩
    · exact ⟨4, by decide, e⟩
  · rcases ht with ⟨e, -⟩ | ⟨-, -, e⟩
    · exact absurd e w
    · intro q
      have e : y.2.2.2.2.2.2.2.2.1 ≤ LAT := e
      rw [q] at e
      exact absurd e (by decide)
def paV (b : Nat) : List (Nat × Nat) := (0, 16) :: paF b
def paW (b : Nat) : List (Nat × Nat) := paF b ++ buF b
def paO (b : Nat) : List (Nat × Nat) := xpO b ++ buO b
theorem pa_a_0 : ∀ b ∈ [5, 7], ∀ p ∈ paV b, (¬ p.1 ∈ OFb) ∧ (∀ c ∈ CNs, (¬ p = (c, 0)) ∧ (¬ p = (c, 3)) ∧ ¬ p = (c, 7)) := by decide +kernel
theorem pa_a (b : Nat) (hb : b ∈ [5, 7]) : ∀ p ∈ paV b, (¬ p.1 ∈ OFb) ∧ (∀ c ∈ CNs, (¬ p = (c, 0)) ∧ (¬ p = (c, 3)) ∧ ¬ p = (c, 7)) := fun p hp => ⟨(pa_a_0 b hb p hp).1, (pa_a_0 b hb p hp).2⟩
theorem pa_b_0 : ∀ b ∈ [5, 7], ∀ p ∈ xpO b, p ∈ OWs ∧ (¬ p.1 ∈ OFb) := by decide +kernel
theorem pa_b_1 : ∀ b ∈ [5, 7], ∀ p ∈ xpO b, (¬ p.1 = 1) := by decide +kernel
theorem pa_b (b : Nat) (hb : b ∈ [5, 7]) : ∀ p ∈ xpO b, p ∈ OWs ∧ (¬ p.1 ∈ OFb) ∧ (¬ p.1 = 1) := fun p hp => ⟨(pa_b_0 b hb p hp).1, (pa_b_0 b hb p hp).2, pa_b_1 b hb p hp⟩
theorem pa_c_0 : ∀ b ∈ [5, 7], ∀ p ∈ paV b, (¬ p = (0, 10)) ∧ (¬ p = (0, 11)) := by decide +kernel
theorem pa_c_1 : ∀ b ∈ [5, 7], ∀ p ∈ paV b, (¬ p = (0, 12)) ∧ (¬ p = (0, 13)) := by decide +kernel
theorem pa_c_2 : ∀ b ∈ [5, 7], ∀ p ∈ paV b, (¬ p = (0, 17)) ∧ (¬ p = (59, 17)) := by decide +kernel
theorem pa_c_3 : ∀ b ∈ [5, 7], ∀ p ∈ paV b, (¬ p.1 = 1) := by decide +kernel
theorem pa_c (b : Nat) (hb : b ∈ [5, 7]) : ∀ p ∈ paV b, (¬ p = (0, 10)) ∧ (¬ p = (0, 11)) ∧ (¬ p = (0, 12)) ∧ (¬ p = (0, 13)) ∧ (¬ p = (0, 17)) ∧ (¬ p = (59, 17)) ∧ (¬ p.1 = 1) := fun p hp => ⟨(pa_c_0 b hb p hp).1, (pa_c_0 b hb p hp).2, (pa_c_1 b hb p hp).1, (pa_c_1 b hb p hp).2, (pa_c_2 b hb p hp).1, (pa_c_2 b hb p hp).2, pa_c_3 b hb p hp⟩
theorem pa_x (b : Nat) (hb : b ∈ [5, 7]) : (∀ p ∈ paV b, (¬ p.1 ∈ OFb) ∧ (∀ c ∈ CNs, (¬ p = (c, 0)) ∧ (¬ p = (c, 3)) ∧ ¬ p = (c, 7))) ∧ (∀ p ∈ xpO b, p ∈ OWs ∧ (¬ p.1 ∈ OFb) ∧ (¬ p.1 = 1)) ∧ (∀ p ∈ paV b, (¬ p = (0, 10)) ∧ (¬ p = (0, 11)) ∧ (¬ p = (0, 12)) ∧ (¬ p = (0, 13)) ∧ (¬ p = (0, 17)) ∧ (¬ p = (59, 17)) ∧ (¬ p.1 = 1)) := ⟨pa_a b hb, pa_b b hb, pa_c b hb⟩
theorem pa_d_0 : ∀ b ∈ [5, 7], ∀ p ∈ paW b, (¬ p = (0, 10)) ∧ (¬ p = (0, 11)) := by decide +kernel
theorem pa_d_1 : ∀ b ∈ [5, 7], ∀ p ∈ paW b, (¬ p = (0, 12)) ∧ (¬ p = (59, 17)) := by decide +kernel
theorem pa_d_2 : ∀ b ∈ [5, 7], ∀ p ∈ paW b, (¬ p.1 = 1) ∧ (∀ c ∈ CNs, ¬ p = (c, 3)) := by decide +kernel
theorem pa_d (b : Nat) (hb : b ∈ [5, 7]) : ∀ p ∈ paW b, (¬ p = (0, 10)) ∧ (¬ p = (0, 11)) ∧ (¬ p = (0, 12)) ∧ (¬ p = (59, 17)) ∧ (¬ p.1 = 1) ∧ (∀ c ∈ CNs, ¬ p = (c, 3)) := fun p hp => ⟨(pa_d_0 b hb p hp).1, (pa_d_0 b hb p hp).2, (pa_d_1 b hb p hp).1, (pa_d_1 b hb p hp).2, (pa_d_2 b hb p hp).1, (pa_d_2 b hb p hp).2⟩
theorem pa_e_0 : ∀ b ∈ [5, 7], ∀ p ∈ paO b, p ∈ OWs ∧ (¬ p.1 = 1) := by decide +kernel
theorem pa_e (b : Nat) (hb : b ∈ [5, 7]) : ∀ p ∈ paO b, p ∈ OWs ∧ (¬ p.1 = 1) := fun p hp => ⟨(pa_e_0 b hb p hp).1, (pa_e_0 b hb p hp).2⟩
theorem pa_f : ∀ b ∈ [5, 7], ¬ (59, 16) ∈ buF b := by decide +kernel
theorem pa_y (b : Nat) (hb : b ∈ [5, 7]) : (∀ p ∈ paW b, (¬ p = (0, 10)) ∧ (¬ p = (0, 11)) ∧ (¬ p = (0, 12)) ∧ (¬ p = (59, 17)) ∧ (¬ p.1 = 1) ∧ (∀ c ∈ CNs, ¬ p = (c, 3))) ∧ (∀ p ∈ paO b, p ∈ OWs ∧ (¬ p.1 = 1)) ∧ ¬ (59, 16) ∈ buF b := ⟨pa_d b hb, pa_e b hb, pa_f b hb⟩
theorem kI_pass (ty : kTY s) (h : INV f s) (t9 : Int64) : kjY kPP (kQQ Y) (d + 8) 9 0 (mjL0 5 [.ref 0, .long t9]) [] s (fun r u => (∃ y, r = some (.int y)) ∧ INV f u) := by
  rcases id h with ⟨nmm, ks, b, E, p, m, I, Q, t, hL, rn, cn, ht, h1, h2⟩ | ⟨b, p, m, t, hD, rn, ht, h1, h2⟩
  · obtain ⟨hm, g, ⟨r1, r2, r3, hp⟩, jb, kb, kl, co, ck, z13, up_⟩ := id hL
    have xl : paG (kHd m s) t9 → KLg p (enE E).length (skA ks) (sgX (xpG (s.2.1 59 16 + t9) ks)) (skA (xpS (s.2.1 59 16 + t9) ks)) ∧ LJ (skA (xpS (s.2.1 59 16 + t9) ks)) p ∧ (enE E).length + (enE (sgX (xpG (s.2.1 59 16 + t9) ks))).length + (tmK (skA (xpS (s.2.1 59 16 + t9) ks)) + 8 * p) ≤ 207584 := fun hG => by
      obtain ⟨-, n2⟩ := pa_now ck.2.1 ck.2.2 hG.1 hG.2.2
      exact xp_log (Int64.lt_of_le_of_lt n2 mxc_nev) ks [] (enE E).length r2 co
    refine kjY_mono ty (fun v z tz _ q => ?_) (kjY_un ty hm.1 hm.2 (kx_pass (d := d) (kTY_kUn ty) g rn.1 jb.1 jb.2.1 kb ck.2.1 ck.2.2 t9 (fun hG => by
      have := (xl hG).2.2
      rw [sgX_e] at this
      rw [List.length_append]; show (enE E).length + ((xpG (s.2.1 59 16 + t9) ks).flatMap encR).length ≤ 210000; omega)))
    obtain ⟨-, hz, q⟩ := q
    rcases q with ⟨e, e1, -⟩ | ⟨hG, v0, ζ, tζ, g1, ⟨k1, k2⟩, k3, ch, bj, -, q⟩
    · have e2 : z = s := by
        rw [← kSh_un hz.1 hz.2, ← kSh_un hm.1 hm.2]
        exact congrArg (kSh (4 * m) 1) e
      exact ⟨⟨_, e1⟩, by rw [e2]; exact h⟩
    refine ⟨v0, ?_⟩
    obtain ⟨x1, x2, x3⟩ := xl hG
    obtain ⟨n1, n2⟩ := pa_now ck.2.1 ck.2.2 hG.1 hG.2.2
    have tyU := kTY_kUn (S := 4 * m) (T := 1) ty
    have kl' : KLg p 0 [] (E ++ sgX (xpG (s.2.1 59 16 + t9) ks)) (skA (xpS (s.2.1 59 16 + t9) ks)) := KLg_app kl (by rw [Nat.zero_add]; exact x1)
    have eE : enE (E ++ sgX (xpG (s.2.1 59 16 + t9) ks)) = enE E ++ (xpG (s.2.1 59 16 + t9) ks).flatMap encR := by rw [enE_app, sgX_e]
    obtain ⟨a1, a2, a3⟩ := pa_x b jb.1
    obtain ⟨c1, c2, c3⟩ := pa_y b jb.1
    rcases q with ⟨g2, k4, ic⟩ | ⟨g2, cl, bj2, k17, k13, ch2, m1, hm0, hm1, k4, k5⟩
    · have cz : Ch true (paV b) (xpO b) (kHd m s) (kHd m z) := Ch.tr tyU (fun p hp => (a2 p hp).1) (ch.up (fun z => z) (fun p hp => List.mem_cons_of_mem _ hp) (fun p hp => hp)) ((Ch_ints (fs := [(0, 16)]) (os := []) ic.1 (fun h x n => ic.2 h x n) (fun p hp => by rw [List.mem_singleton.mp hp, tζ.k (h := 0) (c := 9) (by decide) rfl]; decide)).up (fun z => z) (fun p hp => by rw [List.mem_singleton.mp hp]; exact List.mem_cons_self) (fun p hp => by cases hp))
      have al : ALS s z := ALS.ch (σ := kHd m s) (u := kHd m z) tyU g.1.1 cz a1 (fun p hp => ⟨(a2 p hp).1, (a2 p hp).2.1⟩)
      have f0 := fun y (hy : ¬ (0, y) ∈ paV b) => cz.fld tyU (h := 0) (c := 9) (x := y) (by decide) rfl (by decide) hy
      have f7 : z.1 59 17 = s.1 59 17 := (cz.fld tyU (h := 59) (c := 4) (x := 17) (by decide) rfl (by decide) (fun y => (a3 _ y).2.2.2.2.2.1 rfl)).1
      have e16 : z.2.1 59 16 = s.2.1 59 16 + t9 := by
        have : (kHd m z).2.1 = ζ.2.1 := congrArg (fun t => t.1) ic.1
        exact (congrFun (congrFun this 59) 16).trans k3
      have jz : JB z b := by
        obtain ⟨j1, j2, b', j3, j4, j5⟩ := jb
        exact ⟨j1, (f0 10 (fun y => (a3 _ y).1 rfl)).2.2.trans j2, b', j3, (f0 11 (fun y => (a3 _ y).2.1 rfl)).2.2.trans j4, j5⟩
      have k4 : kBY z b (enE E ++ (xpG (s.2.1 59 16 + t9) ks).flatMap encR) := k4
      have fb : z.1 b 3 = 0 := (ic.2 b 3 (fun y => by
        have := congrArg Prod.snd (List.mem_singleton.mp y)
        exact absurd (show (3 : Nat) = 16 from this) (by decide))).trans k2
      have htz : kBY z 1 t ∧ z.1 1 3 = 0 := ⟨kBY.fr (σ := kHd m s) (u := kHd m z) tyU g.1.1 (b := 1) (by decide) ht.1 cz (fun p hp => (a3 p hp).2.2.2.2.2.2) (fun p hp => ⟨(a2 p hp).1, (a2 p hp).2.2⟩), (cz.fld tyU (h := 1) (c := 0) (x := 3) (by decide) rfl (by decide) (fun y => (a3 _ y).2.2.2.2.2.2 rfl)).1.trans ht.2⟩
      have f17 : z.1 0 17 = s.1 0 17 := (f0 17 (fun y => (a3 _ y).2.2.2.2.1 rfl)).1
      refine Or.inl ⟨nmm, xpS (s.2.1 59 16 + t9) ks, b, E ++ sgX (xpG (s.2.1 59 16 + t9) ks), p, m, I, Q, t, ⟨hz, g2, ⟨fun x hx => r1 x (xpS_sub ks x hx), x2, r3, hp⟩, jz, ⟨by rw [eE]; exact k4, fb⟩, kl', by rw [enE_app, List.length_append]; omega, ⟨f7.trans ck.1, by rw [e16]; exact Int64.le_trans ck.2.1 n1, by rw [e16]; exact n2⟩, (f0 13 (fun y => (a3 _ y).2.2.2.1 rfl)).1.trans z13, by rw [f17]; exact up_⟩, rn.same (f0 12 (fun y => (a3 _ y).2.2.1 rfl)).2.2 (fun c hc => (al.2 c hc).1), cn.als al, htz, h1, h2⟩
    · have cz : Ch true (paW b) (paO b) (kHd m s) (kHd m z) := Ch.tr tyU (fun p hp => (c2 p hp).1) (ch.up (fun z => z) (fun p hp => List.mem_append_left _ hp) (fun p hp => List.mem_append_left _ hp)) (ch2.up (fun z => z) (fun p hp => List.mem_append_right _ hp) (fun p hp => List.mem_append_right _ hp))
      have f0 := fun y (hy : ¬ (0, y) ∈ paW b) => cz.fld tyU (h := 0) (c := 9) (x := y) (by decide) rfl (by decide) hy
      have f7 : z.1 59 17 = s.1 59 17 := (cz.fld tyU (h := 59) (c := 4) (x := 17) (by decide) rfl (by decide) (fun y => (c1 _ y).2.2.2.1 rfl)).1
      have e16 : z.2.1 59 16 = s.2.1 59 16 + t9 := ((ch2.fld tζ (h := 59) (c := 4) (x := 16) (by decide) rfl (by decide) c3).2.1).trans k3
      have jz : JB z b := by
        obtain ⟨j1, j2, b', j3, j4, j5⟩ := jb
        exact ⟨j1, (f0 10 (fun y => (c1 _ y).1 rfl)).2.2.trans j2, b', j3, (f0 11 (fun y => (c1 _ y).2.1 rfl)).2.2.trans j4, j5⟩
      have e3 : ∀ c' ∈ CNs, z.2.2.1 c' 3 = s.2.2.1 c' 3 := fun c' hc' => (cz.fld tyU (CN_w c' hc').1 (CN_w c' hc').2 (by decide) (fun y => (c1 _ y).2.2.2.2.2 c' hc' rfl)).2.2
      have htz : kBY z 1 t ∧ z.1 1 3 = 0 := ⟨kBY.fr (σ := kHd m s) (u := kHd m z) tyU g.1.1 (b := 1) (by decide) ht.1 cz (fun p hp => (c1 p hp).2.2.2.2.1) (fun p hp => c2 p hp), (cz.fld tyU (h := 1) (c := 0) (x := 3) (by decide) rfl (by decide) (fun y => (c1 _ y).2.2.2.2.1 rfl)).1.trans ht.2⟩
      have k4 : kBY z b ((enE E ++ (xpG (s.2.1 59 16 + t9) ks).flatMap encR).take m1) := k4
      have hm1 : m1 ≤ (enE E ++ (xpG (s.2.1 59 16 + t9) ks).flatMap encR).length := hm1
      rw [← eE] at k4 hm1
      exact INd.of hz g2 cl jz ⟨k4, Eq.trans k5 k2⟩ kl' hm1 ⟨f7.trans ck.1, by rw [e16]; exact Int64.le_trans ck.2.1 n1, by rw [e16]; exact n2⟩ k13 k17 hp (rn.same (f0 12 (fun y => (c1 _ y).2.2.1 rfl)).2.2 e3) htz (by omega) (by omega)
  · obtain ⟨hm, g, -, jb, ⟨E, T, A, kb, -⟩, ck, -, z17, -⟩ := id hD
    refine kjY_mono ty (fun v z tz _ q => ?_) (kjY_un ty hm.1 hm.2 (kx_pass (d := d) (kTY_kUn ty) g rn.1 jb.1 jb.2.1 kb ck.2.1 ck.2.2 t9 (fun hG => absurd z17 hG.2.1)))
    obtain ⟨-, hz, q⟩ := q
    rcases q with ⟨e, e1, -⟩ | ⟨hG, -⟩
    · have e2 : z = s := by
        rw [← kSh_un hz.1 hz.2, ← kSh_un hm.1 hm.2]
        exact congrArg (kSh (4 * m) 1) e
      exact ⟨⟨_, e1⟩, by rw [e2]; exact h⟩
    · exact absurd z17 hG.2.1
theorem rt_a_0 : ∀ b ∈ [5, 7], ∀ p ∈ rtF b, (¬ p.1 ∈ OFb) ∧ (∀ c ∈ CNs, (¬ p = (c, 0)) ∧ (¬ p = (c, 3)) ∧ ¬ p = (c, 7)) := by decide +kernel
theorem rt_a (b : Nat) (hb : b ∈ [5, 7]) : ∀ p ∈ rtF b, (¬ p.1 ∈ OFb) ∧ (∀ c ∈ CNs, (¬ p = (c, 0)) ∧ (¬ p = (c, 3)) ∧ ¬ p = (c, 7)) := fun p hp => ⟨(rt_a_0 b hb p hp).1, (rt_a_0 b hb p hp).2⟩
theorem rt_b_0 : ∀ b ∈ [5, 7], ∀ p ∈ rtO b, p ∈ OWs ∧ (¬ p.1 ∈ OFb) := by decide +kernel
theorem rt_b_1 : ∀ b ∈ [5, 7], ∀ p ∈ rtO b, (¬ p.1 = 1) := by decide +kernel
theorem rt_b (b : Nat) (hb : b ∈ [5, 7]) : ∀ p ∈ rtO b, p ∈ OWs ∧ (¬ p.1 ∈ OFb) ∧ (¬ p.1 = 1) := fun p hp => ⟨(rt_b_0 b hb p hp).1, (rt_b_0 b hb p hp).2, rt_b_1 b hb p hp⟩
theorem rt_c_0 : ∀ b ∈ [5, 7], ∀ p ∈ rtF b, (¬ p = (0, 10)) ∧ (¬ p = (0, 11)) := by decide +kernel
theorem rt_c_1 : ∀ b ∈ [5, 7], ∀ p ∈ rtF b, (¬ p = (0, 12)) ∧ (¬ p = (0, 13)) := by decide +kernel
theorem rt_c_2 : ∀ b ∈ [5, 7], ∀ p ∈ rtF b, (¬ p.1 = 1) := by decide +kernel
theorem rt_c (b : Nat) (hb : b ∈ [5, 7]) : ∀ p ∈ rtF b, (¬ p = (0, 10)) ∧ (¬ p = (0, 11)) ∧ (¬ p = (0, 12)) ∧ (¬ p = (0, 13)) ∧ (¬ p.1 = 1) := fun p hp => ⟨(rt_c_0 b hb p hp).1, (rt_c_0 b hb p hp).2, (rt_c_1 b hb p hp).1, (rt_c_1 b hb p hp).2, rt_c_2 b hb p hp⟩
theorem rt_x (b : Nat) (hb : b ∈ [5, 7]) : (∀ p ∈ rtF b, (¬ p.1 ∈ OFb) ∧ (∀ c ∈ CNs, (¬ p = (c, 0)) ∧ (¬ p = (c, 3)) ∧ ¬ p = (c, 7))) ∧ (∀ p ∈ rtO b, p ∈ OWs ∧ (¬ p.1 ∈ OFb) ∧ (¬ p.1 = 1)) ∧ (∀ p ∈ rtF b, (¬ p = (0, 10)) ∧ (¬ p = (0, 11)) ∧ (¬ p = (0, 12)) ∧ (¬ p = (0, 13)) ∧ (¬ p.1 = 1)) := ⟨rt_a b hb, rt_b b hb, rt_c b hb⟩
theorem kI_restart (ty : kTY s) (h : INV f s) : kjY kPP (kQQ Y) (d + 12) 13 0 (mjL0 6 [.ref 0]) [] s (fun r u => (∃ y, r = some (.int y)) ∧ INV f u) := by
  rcases id h with ⟨nmm, ks, b, E, p, m, I, Q, t, hL, rn, cn, ht, h1, h2⟩ | ⟨b, p, m, t, hD, rn, ht, h1, h2⟩
  · obtain ⟨hm, g, -, -, -, -, -, -, -, up_⟩ := id hL
    exact kjY_mono ty (fun v z tz _ q => ⟨⟨_, q.2⟩, by rw [q.1]; exact h⟩) (kx_restart1 (d := d) ty up_)
  · obtain ⟨hm, g, ⟨cn, lv⟩, jb, ⟨E, T, A, kb, hT, kl, co⟩, ck, z13, z17, hp⟩ := id hD
    obtain ⟨B, bS, b1, b2, b3, bR⟩ := KLg_B2 kl hp (by omega)
    have lj : LJ A p := KLg_LJ kl (LJ_nil p hp)
    have xl : ∀ ks', skA ks' = A → KLg p (enE E).length (skA ks') (sgX (xpG (s.2.1 59 16) ks')) (skA (xpS (s.2.1 59 16) ks')) ∧ LJ (skA (xpS (s.2.1 59 16) ks')) p ∧ (enE E).length + (enE (sgX (xpG (s.2.1 59 16) ks'))).length + (tmK (skA (xpS (s.2.1 59 16) ks')) + 8 * p) ≤ 207584 := fun ks' e => xp_log ck.nev ks' [] (enE E).length (by show LJ (skA ks') p; rw [e]; exact lj) (by show _ + (tmK (skA ks') + 8 * p) ≤ _; rw [e]; exact co)
    have can : ∀ P, enE E ++ T = P ++ T → P = enE E := fun P e => (List.append_cancel_right e).symm
    refine kjY_mono ty (fun v z tz _ q => ?_) (kjY_un ty hm.1 hm.2 (kx_restart (d := d) (B := B) (ks := []) (kTY_kUn ty) (g.reB (fun w hw => by cases hw)) (fun x hx => by cases hx) z17 jb.1 jb.2.1 kb hT (bs := E) (by rw [enE_fl]) ck.nev (bR _) (fun P ks' e1 e2 => by
      rw [can P e1, List.length_append]
      have := (xl ks' e2).2.2
      rw [sgX_e] at this
      show (enE E).length + ((xpG (s.2.1 59 16) ks').flatMap encR).length ≤ 210000; omega)))
    obtain ⟨-, hz, v0, nm', ks', P, e1, e2, g1, rs, ⟨k1, k2⟩, k3, k4, k5, ch⟩ := q
    refine ⟨v0, ?_⟩
    obtain ⟨x1, x2, x3⟩ := xl ks' e2
    rw [can P e1] at k1
    have k1 : kBY z b (enE E ++ (xpG (s.2.1 59 16) ks').flatMap encR) := k1
    have k4 : z.2.1 59 16 = s.2.1 59 16 := k4
    have k5 : z.1 0 17 = 1 := k5
    have tyU := kTY_kUn (S := 4 * m) (T := 1) ty
    have ch : Ch true (rtF b) (rtO b) (kHd m s) (kHd m z) := ch
    obtain ⟨a1, a2, a3⟩ := rt_x b jb.1
    have al : ALS s z := ALS.ch (σ := kHd m s) (u := kHd m z) tyU g.1.1 ch a1 (fun p hp => ⟨(a2 p hp).1, (a2 p hp).2.1⟩)
    have f0 := fun y (hy : ¬ (0, y) ∈ rtF b) => ch.fld tyU (h := 0) (c := 9) (x := y) (by decide) rfl (by decide) hy
    have jz : JB z b := by
      obtain ⟨j1, j2, b', j3, j4, j5⟩ := jb
      exact ⟨j1, (f0 10 (fun y => (a3 _ y).1 rfl)).2.2.trans j2, b', j3, (f0 11 (fun y => (a3 _ y).2.1 rfl)).2.2.trans j4, j5⟩
    have htz : kBY z 1 t ∧ z.1 1 3 = 0 := ⟨kBY.fr (σ := kHd m s) (u := kHd m z) tyU g.1.1 (b := 1) (by decide) ht.1 ch (fun p hp => (a3 p hp).2.2.2.2) (fun p hp => ⟨(a2 p hp).1, (a2 p hp).2.2⟩), (ch.fld tyU (h := 1) (c := 0) (x := 3) (by decide) rfl (by decide) (fun y => (a3 _ y).2.2.2.2 rfl)).1.trans ht.2⟩
    have kl' : KLg p 0 [] (E ++ sgX (xpG (s.2.1 59 16) ks')) (skA (xpS (s.2.1 59 16) ks')) := KLg_app kl (by rw [Nat.zero_add, ← e2]; exact x1)
    have eE : enE (E ++ sgX (xpG (s.2.1 59 16) ks')) = enE E ++ (xpG (s.2.1 59 16) ks').flatMap encR := by rw [enE_app, sgX_e]
    have wb : WBe nm' p := WB_start b1 b2 (by omega) g1.2.1.1.nd g1.2.1.2
    have s0 : sIn (fun _ => []) = 0 := rfl
    have q0 : sQu (fun _ => []) = 0 := rfl
    exact Or.inl ⟨nm', xpS (s.2.1 59 16) ks', b, E ++ sgX (xpG (s.2.1 59 16) ks'), p, m, fun _ => [], fun _ => [], t, ⟨hz, g1.reB (fun w hw => hw), ⟨rs, x2, wb, hp⟩, jz, ⟨by rw [eE]; exact k1, k2⟩, kl', by rw [enE_app, List.length_append]; omega, ⟨k3, by rw [k4]; exact ck.2.1, by rw [k4]; exact ck.2.2⟩, (f0 13 (fun y => (a3 _ y).2.2.2.1 rfl)).1.trans z13, by rw [k5]; decide⟩, rn.same (f0 12 (fun y => (a3 _ y).2.2.1 rfl)).2.2 (fun c hc => (al.2 c hc).1), cn.als al, htz, by omega, by omega⟩
theorem kx_rewrite0 (ty : kTY s) (h17 : s.1 0 17 = 0) : kjY kPP (kQQ Y) d 14 0 (mjL0 2 [.ref 0]) [] s (fun r u => u = s ∧ ∃ y, r = some (.int y)) := by
  refine kjZ_y rfl rfl 3 _ _ _ _ ty ?_
  refine (And.intro (ty.k (by decide) rfl) (And.intro (fun q => ?_) (fun q => ?_)))
  · exact absurd h17 q
  refine kjZ_y rfl rfl 2 _ _ _ _ ty ?_
  refine And.intro rfl (And.intro (Or.inl rfl) ?_)
  exact ⟨rfl, _, rfl⟩
theorem rw_a_0 : ∀ b ∈ [5, 7], ∀ p ∈ rwF b, (¬ p = (0, 10)) ∧ (¬ p = (0, 11)) := by decide +kernel
theorem rw_a_1 : ∀ b ∈ [5, 7], ∀ p ∈ rwF b, (¬ p = (0, 12)) ∧ (¬ p = (59, 17)) := by decide +kernel
theorem rw_a_2 : ∀ b ∈ [5, 7], ∀ p ∈ rwF b, (¬ p = (59, 16)) ∧ (¬ p.1 = 1) := by decide +kernel
theorem rw_a_3 : ∀ b ∈ [5, 7], ∀ p ∈ rwF b, (∀ c ∈ CNs, ¬ p = (c, 3)) ∧ (∀ b' ∈ [5, 7], ¬ b' = b → ¬ p.1 = b') := by decide +kernel
theorem rw_a (b : Nat) (hb : b ∈ [5, 7]) : ∀ p ∈ rwF b, (¬ p = (0, 10)) ∧ (¬ p = (0, 11)) ∧ (¬ p = (0, 12)) ∧ (¬ p = (59, 17)) ∧ (¬ p = (59, 16)) ∧ (¬ p.1 = 1) ∧ (∀ c ∈ CNs, ¬ p = (c, 3)) ∧ (∀ b' ∈ [5, 7], ¬ b' = b → ¬ p.1 = b') := fun p hp => ⟨(rw_a_0 b hb p hp).1, (rw_a_0 b hb p hp).2, (rw_a_1 b hb p hp).1, (rw_a_1 b hb p hp).2, (rw_a_2 b hb p hp).1, (rw_a_2 b hb p hp).2, (rw_a_3 b hb p hp).1, (rw_a_3 b hb p hp).2⟩
theorem rw_b_0 : ∀ b ∈ [5, 7], ∀ p ∈ rwO b, p ∈ OWs ∧ (¬ p.1 = 1) := by decide +kernel
theorem rw_b_1 : ∀ b ∈ [5, 7], ∀ p ∈ rwO b, (∀ b' ∈ [5, 7], ¬ b' = b → ¬ p.1 = b') := by decide +kernel
theorem rw_b (b : Nat) (hb : b ∈ [5, 7]) : ∀ p ∈ rwO b, p ∈ OWs ∧ (¬ p.1 = 1) ∧ (∀ b' ∈ [5, 7], ¬ b' = b → ¬ p.1 = b') := fun p hp => ⟨(rw_b_0 b hb p hp).1, (rw_b_0 b hb p hp).2, rw_b_1 b hb p hp⟩
theorem rw_x (b : Nat) (hb : b ∈ [5, 7]) : (∀ p ∈ rwF b, (¬ p = (0, 10)) ∧ (¬ p = (0, 11)) ∧ (¬ p = (0, 12)) ∧ (¬ p = (59, 17)) ∧ (¬ p = (59, 16)) ∧ (¬ p.1 = 1) ∧ (∀ c ∈ CNs, ¬ p = (c, 3)) ∧ (∀ b' ∈ [5, 7], ¬ b' = b → ¬ p.1 = b')) ∧ (∀ p ∈ rwO b, p ∈ OWs ∧ (¬ p.1 = 1) ∧ (∀ b' ∈ [5, 7], ¬ b' = b → ¬ p.1 = b')) := ⟨rw_a b hb, rw_b b hb⟩
theorem rw_c_0 : ∀ b ∈ [5, 7], ∀ p ∈ rwG b, (¬ p.1 ∈ OFb) ∧ (∀ c ∈ CNs, (¬ p = (c, 0)) ∧ (¬ p = (c, 3)) ∧ ¬ p = (c, 7)) := by decide +kernel
theorem rw_c (b : Nat) (hb : b ∈ [5, 7]) : ∀ p ∈ rwG b, (¬ p.1 ∈ OFb) ∧ (∀ c ∈ CNs, (¬ p = (c, 0)) ∧ (¬ p = (c, 3)) ∧ ¬ p = (c, 7)) := fun p hp => ⟨(rw_c_0 b hb p hp).1, (rw_c_0 b hb p hp).2⟩
theorem rw_d_0 : ∀ b ∈ [5, 7], ∀ p ∈ [((b : Nat), (1 : Nat))], p ∈ OWs ∧ (¬ p.1 ∈ OFb) := by decide +kernel
theorem rw_d_1 : ∀ b ∈ [5, 7], ∀ p ∈ [((b : Nat), (1 : Nat))], (¬ p.1 = 1) := by decide +kernel
theorem rw_d (b : Nat) (hb : b ∈ [5, 7]) : ∀ p ∈ [((b : Nat), (1 : Nat))], p ∈ OWs ∧ (¬ p.1 ∈ OFb) ∧ (¬ p.1 = 1) := fun p hp => ⟨(rw_d_0 b hb p hp).1, (rw_d_0 b hb p hp).2, rw_d_1 b hb p hp⟩
theorem rw_e_0 : ∀ b ∈ [5, 7], ∀ p ∈ rwG b, (¬ p = (0, 12)) ∧ (¬ p = (0, 13)) := by decide +kernel
theorem rw_e_1 : ∀ b ∈ [5, 7], ∀ p ∈ rwG b, (¬ p = (0, 17)) ∧ (¬ p = (59, 17)) := by decide +kernel
theorem rw_e_2 : ∀ b ∈ [5, 7], ∀ p ∈ rwG b, (¬ p = (59, 16)) ∧ (¬ p.1 = 1) := by decide +kernel
theorem rw_e (b : Nat) (hb : b ∈ [5, 7]) : ∀ p ∈ rwG b, (¬ p = (0, 12)) ∧ (¬ p = (0, 13)) ∧ (¬ p = (0, 17)) ∧ (¬ p = (59, 17)) ∧ (¬ p = (59, 16)) ∧ (¬ p.1 = 1) := fun p hp => ⟨(rw_e_0 b hb p hp).1, (rw_e_0 b hb p hp).2, (rw_e_1 b hb p hp).1, (rw_e_1 b hb p hp).2, (rw_e_2 b hb p hp).1, (rw_e_2 b hb p hp).2⟩
theorem rw_y (b : Nat) (hb : b ∈ [5, 7]) : (∀ p ∈ rwG b, (¬ p.1 ∈ OFb) ∧ (∀ c ∈ CNs, (¬ p = (c, 0)) ∧ (¬ p = (c, 3)) ∧ ¬ p = (c, 7))) ∧ (∀ p ∈ [((b : Nat), (1 : Nat))], p ∈ OWs ∧ (¬ p.1 ∈ OFb) ∧ (¬ p.1 = 1)) ∧ (∀ p ∈ rwG b, (¬ p = (0, 12)) ∧ (¬ p = (0, 13)) ∧ (¬ p = (0, 17)) ∧ (¬ p = (59, 17)) ∧ (¬ p = (59, 16)) ∧ (¬ p.1 = 1)) := ⟨rw_c b hb, rw_d b hb, rw_e b hb⟩
theorem kI_rewrite (ty : kTY s) (h : INV f s) : kjY kPP (kQQ Y) (d + 9) 14 0 (mjL0 2 [.ref 0]) [] s (fun r u => (∃ y, r = some (.int y)) ∧ INV f u) := by
  rcases id h with ⟨nmm, ks, b, E, p, m, I, Q, t, hL, rn, cn, ht, h1, h2⟩ | ⟨b, p, m, t, hD, rn, ht, h1, h2⟩
  · obtain ⟨hm, g, ⟨r1, r2, r3, hp⟩, jb, kb, kl, co, ck, z13, up_⟩ := id hL
    obtain ⟨j1, j2, b', j3, j4, j5⟩ := id jb
    have tyU := kTY_kUn (S := 4 * m) (T := 1) ty
    obtain ⟨d1, d2⟩ := KLg_dump r2 (g.bya tyU r2.1.1)
    have eD : enE (sgX (dmR (skA ks))) = encs (dmR (skA ks)) := sgX_e _
    refine kjY_mono ty (fun v z tz _ q => ?_) (kjY_un ty hm.1 hm.2 (kx_rewrite (d := d) tyU g rn.1 j1 j3 j2 j4 (IA_TLo r2.1.1) (by rw [← eD]; omega)))
    obtain ⟨-, hz, v0, q⟩ := q
    refine ⟨v0, ?_⟩
    rcases q with ⟨-, q⟩ | ⟨g1, cl, bj, k17, k13, ch⟩ | ⟨g1, ⟨k1, k2⟩, k3, k4, ζ, ch, ez⟩
    · exact absurd q up_
    · have ch : Ch true (rwF b') (rwO b') (kHd m s) (kHd m z) := ch
      obtain ⟨a1, a2⟩ := rw_x b' j3
      have f0 := fun y (hy : ¬ (0, y) ∈ rwF b') => ch.fld tyU (h := 0) (c := 9) (x := y) (by decide) rfl (by decide) hy
      have f5 := fun y (hy : ¬ (59, y) ∈ rwF b') => ch.fld tyU (h := 59) (c := 4) (x := y) (by decide) rfl (by decide) hy
      have fx : FIX s z := ⟨(f0 10 (fun y => (a1 _ y).1 rfl)).2.2, (f0 11 (fun y => (a1 _ y).2.1 rfl)).2.2, (f5 17 (fun y => (a1 _ y).2.2.2.1 rfl)).1, (f5 16 (fun y => (a1 _ y).2.2.2.2.1 rfl)).2.1⟩
      have e3 : ∀ c' ∈ CNs, z.2.2.1 c' 3 = s.2.2.1 c' 3 := fun c' hc' => (ch.fld tyU (CN_w c' hc').1 (CN_w c' hc').2 (by decide) (fun y => (a1 _ y).2.2.2.2.2.2.1 c' hc' rfl)).2.2
      have nbb : ¬ b = b' := fun y => j5 y.symm
      have kbz : kBY z b (enE E) := kBY.fr (σ := kHd m s) (u := kHd m z) tyU g.1.1 (J_ok b j1).1 kb.1 ch (fun p hp => (a1 p hp).2.2.2.2.2.2.2 b j1 nbb) (fun p hp => ⟨(a2 p hp).1, (a2 p hp).2.2 b j1 nbb⟩)
      have fb : z.1 b 3 = s.1 b 3 := (ch.fld tyU (h := b) (x := 3) (bk0 j1).1 (bk0 j1).2 (by decide) (fun y => (a1 _ y).2.2.2.2.2.2.2 b j1 nbb rfl)).1
      have htz : kBY z 1 t ∧ z.1 1 3 = 0 := ⟨kBY.fr (σ := kHd m s) (u := kHd m z) tyU g.1.1 (b := 1) (by decide) ht.1 ch (fun p hp => (a1 p hp).2.2.2.2.2.1) (fun p hp => ⟨(a2 p hp).1, (a2 p hp).2.1⟩), (ch.fld tyU (h := 1) (c := 0) (x := 3) (by decide) rfl (by decide) (fun y => (a1 _ y).2.2.2.2.2.1 rfl)).1.trans ht.2⟩
      exact INd.of (m1 := (enE E).length) hz g1 cl (jb.fix fx) ⟨by rw [List.take_length]; exact kbz, fb.trans kb.2⟩ kl (Nat.le_refl _) (ck.fix fx) k13 k17 hp (rn.same (f0 12 (fun y => (a1 _ y).2.2.1 rfl)).2.2 e3) htz (by omega) (by omega)
    · have ez : kHd m z = (ζ.1, ζ.2.1, kFu (kFu ζ.2.2.1 0 10 (some b')) 0 11 (some b), ζ.2.2.2) := ez
      obtain ⟨a1, a2, a3⟩ := rw_y b' j3
      have al : ALS (kHd m s) ζ := ALS.ch (σ := kHd m s) (u := ζ) tyU g.1.1 ch a1 (fun p hp => ⟨(a2 p hp).1, (a2 p hp).2.1⟩)
      have eI : z.1 = ζ.1 := by
        show (kHd m z).1 = _
        rw [ez]
      have eL : z.2.1 = ζ.2.1 := by
        show (kHd m z).2.1 = _
        rw [ez]
      have eDD : z.2.2.2.1 = ζ.2.2.2.1 := by
        show (kHd m z).2.2.2.1 = _
        rw [ez]
      have eF : ∀ h x, ¬ h = 0 → z.2.2.1 h x = ζ.2.2.1 h x := fun h x w => by
        show (kHd m z).2.2.1 h x = _
        rw [ez]; show kFu (kFu ζ.2.2.1 0 10 (some b')) 0 11 (some b) h x = _
        rw [kFu_at, if_neg (fun y => w y.1), kFu_at, if_neg (fun y => w y.1)]
      have kk : ∀ x, (¬ x = 0) → ∀ l, kBY ζ x l → kBY z x l := fun x hx l hl => by
        obtain ⟨r, N, r1, r2, r3, r4, r5, r6, r7⟩ := hl
        exact ⟨r, N, by rw [eF x 1 hx]; exact r1, by rw [eDD]; exact r2, r3, by rw [eI]; exact r4, by rw [eI]; exact r5, r6, by rw [eI]; exact r7⟩
      have n0 : (∀ b ∈ OFb, ¬ b = 0) ∧ ∀ c ∈ CNs, ¬ c = 0 := by decide
      have alz : ALS s z := ⟨fun x hx => ⟨fun l hl => kk x (n0.1 x hx) l ((al.1 x hx).1 l hl), by rw [eI]; exact (al.1 x hx).2⟩, fun c hc => ⟨(eF c 3 (n0.2 c hc)).trans (al.2 c hc).1, by rw [eI]; exact (al.2 c hc).2.1, by rw [eI]; exact (al.2 c hc).2.2⟩⟩
      have f0 := fun y (hy : ¬ (0, y) ∈ rwG b') => ch.fld tyU (h := 0) (c := 9) (x := y) (by decide) rfl (by decide) hy
      have f5 := fun y (hy : ¬ (59, y) ∈ rwG b') => ch.fld tyU (h := 59) (c := 4) (x := y) (by decide) rfl (by decide) hy
      have f12 : z.2.2.1 0 12 = s.2.2.1 0 12 := by
        have : (kHd m z).2.2.1 0 12 = ζ.2.2.1 0 12 := by
          rw [ez]; show kFu (kFu ζ.2.2.1 0 10 (some b')) 0 11 (some b) 0 12 = _
          rw [kFu_at, if_neg (fun y => absurd y.2 (by decide)), kFu_at, if_neg (fun y => absurd y.2 (by decide))]
        exact this.trans (f0 12 (fun y => (a3 _ y).1 rfl)).2.2
      have e13 : z.1 0 13 = 0 := by rw [eI]; exact (f0 13 (fun y => (a3 _ y).2.1 rfl)).1.trans z13
      have e17 : z.1 0 17 = s.1 0 17 := by rw [eI]; exact (f0 17 (fun y => (a3 _ y).2.2.1 rfl)).1
      have htζ : kBY ζ 1 t := kBY.fr (σ := kHd m s) (u := ζ) tyU g.1.1 (b := 1) (by decide) ht.1 ch (fun p hp => (a3 p hp).2.2.2.2.2) (fun p hp => ⟨(a2 p hp).1, (a2 p hp).2.2⟩)
      have htf : z.1 1 3 = 0 := by rw [eI]; exact (ch.fld tyU (h := 1) (c := 0) (x := 3) (by decide) rfl (by decide) (fun y => (a3 _ y).2.2.2.2.2 rfl)).1.trans ht.2
      have c17 : z.1 59 17 = 0 := by rw [eI]; exact (f5 17 (fun y => (a3 _ y).2.2.2.1 rfl)).1.trans ck.1
      have c16 : z.2.1 59 16 = s.2.1 59 16 := by rw [eL]; exact (f5 16 (fun y => (a3 _ y).2.2.2.2.1 rfl)).2.1
      have k1 : kBY z b' (encs (dmR (skA ks))) := k1
      rw [← eD] at k1
      exact Or.inl ⟨nmm, ks, b', sgX (dmR (skA ks)), p, m, I, Q, t, ⟨hz, g1, ⟨r1, r2, r3, hp⟩, ⟨j3, k3, b, j1, k4, fun y => j5 y.symm⟩, ⟨k1, k2⟩, d1, d2, ⟨c17, by rw [c16]; exact ck.2.1, by rw [c16]; exact ck.2.2⟩, e13, by rw [e17]; exact up_⟩, rn.same f12 (fun c hc => (alz.2 c hc).1), cn.als alz, ⟨kk 1 (by decide) t htζ, htf⟩, h1, h2⟩
  · obtain ⟨hm, g, -, jb, -, -, -, z17, -⟩ := id hD
    obtain ⟨j1, j2, b', j3, j4, j5⟩ := id jb
    refine kjY_mono ty (fun v z tz _ q => ?_) (kjY_un ty hm.1 hm.2 (kx_rewrite0 (d := d + 9) (kTY_kUn ty) z17))
    obtain ⟨-, hz, e, v0⟩ := q
    have e2 : z = s := by
      rw [← kSh_un hz.1 hz.2, ← kSh_un hm.1 hm.2]
      exact congrArg (kSh (4 * m) 1) e
    exact ⟨v0, by rw [e2]; exact h⟩
end KCALLS3
