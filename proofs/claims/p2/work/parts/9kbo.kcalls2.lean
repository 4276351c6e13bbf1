/-! The class's calls, over one invariant: pass, crash, restart, rewrite, tear. -/
section KCALLS2
variable {Y : Nat → MethodName × ByteArray} {d : Nat} {s u z : kS} {f : Nat} {B : List (List Int32)}
/-- the server has gone -/
theorem INd.of {b p m m1 : Nat} {E : List Blk} {A : List AK} {t : List Int32} (hz : 4 * m ≤ z.2.2.2.2.2.2 ∧ 1 ≤ z.2.2.2.2.2.1) (g : KG B (kHd m z) [] []) (cl : ∀ c ∈ CNs, CLRd z c) (jb : JB z b) (kb : kBY z b ((enE E).take m1) ∧ z.1 b 3 = 0) (kl : KLg p 0 [] E A) (hm1 : m1 ≤ (enE E).length) (ck : CLK z) (z13 : z.1 0 13 = 0) (z17 : z.1 0 17 = 0) (hp : p ≤ 10240) (rn : RNW z) (ht : kBY z 1 t ∧ z.1 1 3 = 0) (h1 : f + t.length ≤ p) (h2 : 4 * (f + t.length) + 16 ≤ m) : INV f z := by
  obtain ⟨E1, A1, T, t1, t2, t3, t4⟩ := KLg_cut E [] _ 0 m1 kl hm1
  rw [t1] at kb
  refine Or.inr ⟨b, p, m, t, ⟨hz, g.reB (fun w hw => by cases hw), CL_cnw cl, jb, ⟨E1, T, A1, kb, t3, t2, ?_⟩, ck, z13, z17, hp⟩, rn, ht, h1, h2⟩
  have := t4 (by show 19 * 0 + 2 * 0 + 8 * p + 0 ≤ 207584; omega)
  unfold tmK; omega
theorem ha_x : (∀ p ∈ [((0, 10) : Nat × Nat), (0, 11), (59, 17), (59, 16)], ¬ p ∈ haF) ∧ ((¬ (0, 12) ∈ haF) ∧ ∀ c ∈ CNs, ¬ (c, 3) ∈ haF) ∧ (∀ p ∈ haF, (¬ p.1 = 1) ∧ (¬ p.1 = 5) ∧ ¬ p.1 = 7) ∧ (∀ p ∈ haO, p ∈ OWs ∧ (¬ p.1 = 1) ∧ (¬ p.1 = 5) ∧ ¬ p.1 = 7) := by
  refine ⟨?_, ⟨?_, ?_⟩, ?_, ?_⟩
  · decide +kernel
  · decide +kernel
  · decide +kernel
  · decide +kernel
  · decide +kernel
theorem b57 {b : Nat} (hb : b ∈ [5, 7]) {q : Nat} (h5 : ¬ q = 5) (h7 : ¬ q = 7) : ¬ q = b := by
  have hb57 : b = 5 ∨ b = 7 := by simpa using hb
  rcases hb57 with e | e
  · rw [e]; exact h5
  · rw [e]; exact h7
theorem bk0 {b : Nat} (hb : b ∈ [5, 7]) : b < 76 ∧ (kd0 b).1 = 0 := by
  have q : ∀ b ∈ [5, 7], b < 76 ∧ (kd0 b).1 = 0 := by decide
  exact q b hb
theorem kI_crash (ty : kTY s) (h : INV f s) : kjY kPP (kQQ Y) (d + 5) 12 0 (mjL0 1 [.ref 0]) [] s (fun r u => (∃ y, r = some (.int y)) ∧ INV f u) := by
  rcases id h with ⟨nmm, ks, b, E, p, m, I, Q, t, hL, rn, cn, ht, h1, h2⟩ | ⟨b, p, m, t, hD, rn, ht, h1, h2⟩
  · obtain ⟨hm, g, ⟨-, -, -, hp⟩, jb, kb, kl, co, ck, z13, up_⟩ := id hL
    refine kjY_mono ty (fun v z tz _ q => ?_) (kjY_un ty hm.1 hm.2 (kx_crash (d := d) (kTY_kUn ty) g rn.1))
    obtain ⟨-, hz, v0, q⟩ := q
    refine ⟨v0, ?_⟩
    rcases q with ⟨-, q⟩ | ⟨-, g1, cl, bj, k17, k13, ch⟩
    · exact absurd q up_
    have tyU := kTY_kUn (S := 4 * m) (T := 1) ty
    have ch : Ch true haF haO (kHd m s) (kHd m z) := ch
    have fx : FIX s z := FIX.ch (s := kHd m s) (u := kHd m z) tyU ch ha_x.1
    have f12 : z.2.2.1 0 12 = s.2.2.1 0 12 := (ch.fld tyU (h := 0) (c := 9) (by decide) rfl (by decide) ha_x.2.1.1).2.2
    have e3 : ∀ c' ∈ CNs, z.2.2.1 c' 3 = s.2.2.1 c' 3 := fun c' hc' => (ch.fld tyU (CN_w c' hc').1 (CN_w c' hc').2 (by decide) (ha_x.2.1.2 c' hc')).2.2
    have kbz : kBY z b (enE E) := kBY.fr (σ := kHd m s) (u := kHd m z) tyU g.1.1 (J_ok b jb.1).1 kb.1 ch (fun p hp => b57 jb.1 (ha_x.2.2.1 p hp).2.1 (ha_x.2.2.1 p hp).2.2) (fun p hp => ⟨(ha_x.2.2.2 p hp).1, b57 jb.1 (ha_x.2.2.2 p hp).2.2.1 (ha_x.2.2.2 p hp).2.2.2⟩)
    have fb : z.1 b 3 = s.1 b 3 := (ch.fld tyU (h := b) (x := 3) (bk0 jb.1).1 (bk0 jb.1).2 (by decide) (fun y => b57 jb.1 (ha_x.2.2.1 _ y).2.1 (ha_x.2.2.1 _ y).2.2 rfl)).1
    have htz : kBY z 1 t ∧ z.1 1 3 = 0 := ⟨kBY.fr (σ := kHd m s) (u := kHd m z) tyU g.1.1 (b := 1) (by decide) ht.1 ch (fun p hp => (ha_x.2.2.1 p hp).1) (fun p hp => ⟨(ha_x.2.2.2 p hp).1, (ha_x.2.2.2 p hp).2.1⟩), (ch.fld tyU (h := 1) (c := 0) (x := 3) (by decide) rfl (by decide) (fun y => (ha_x.2.2.1 _ y).1 rfl)).1.trans ht.2⟩
    exact INd.of (m1 := (enE E).length) hz g1 cl (jb.fix fx) ⟨by rw [List.take_length]; exact kbz, fb.trans kb.2⟩ kl (Nat.le_refl _) (ck.fix fx) k13 k17 hp (rn.same f12 e3) htz (by omega) (by omega)
  · obtain ⟨hm, g, -, -, -, -, -, z17, -⟩ := id hD
    refine kjY_mono ty (fun v z tz _ q => ?_) (kjY_un ty hm.1 hm.2 (kx_crash (d := d) (kTY_kUn ty) g rn.1))
    obtain ⟨-, hz, v0, q⟩ := q
    refine ⟨v0, ?_⟩
    rcases q with ⟨e, -⟩ | ⟨-, g1, cl, bj, k17, k13, ch⟩
    · have e2 : z = s := by
        rw [← kSh_un hz.1 hz.2, ← kSh_un hm.1 hm.2]
        exact congrArg (kSh (4 * m) 1) e
      rw [e2]; exact h
    · obtain ⟨-, -, cn, jb, ⟨E, T, A, kb, hT, kl, co⟩, ck, -, -, hp⟩ := id hD
      have tyU := kTY_kUn (S := 4 * m) (T := 1) ty
      have ch : Ch true haF haO (kHd m s) (kHd m z) := ch
      have fx : FIX s z := FIX.ch (s := kHd m s) (u := kHd m z) tyU ch ha_x.1
      have f12 : z.2.2.1 0 12 = s.2.2.1 0 12 := (ch.fld tyU (h := 0) (c := 9) (by decide) rfl (by decide) ha_x.2.1.1).2.2
      have e3 : ∀ c' ∈ CNs, z.2.2.1 c' 3 = s.2.2.1 c' 3 := fun c' hc' => (ch.fld tyU (CN_w c' hc').1 (CN_w c' hc').2 (by decide) (ha_x.2.1.2 c' hc')).2.2
      have kbz : kBY z b (enE E ++ T) := kBY.fr (σ := kHd m s) (u := kHd m z) tyU g.1.1 (J_ok b jb.1).1 kb.1 ch (fun p hp => b57 jb.1 (ha_x.2.2.1 p hp).2.1 (ha_x.2.2.1 p hp).2.2) (fun p hp => ⟨(ha_x.2.2.2 p hp).1, b57 jb.1 (ha_x.2.2.2 p hp).2.2.1 (ha_x.2.2.2 p hp).2.2.2⟩)
      have fb : z.1 b 3 = s.1 b 3 := (ch.fld tyU (h := b) (x := 3) (bk0 jb.1).1 (bk0 jb.1).2 (by decide) (fun y => b57 jb.1 (ha_x.2.2.1 _ y).2.1 (ha_x.2.2.1 _ y).2.2 rfl)).1
      have htz : kBY z 1 t ∧ z.1 1 3 = 0 := ⟨kBY.fr (σ := kHd m s) (u := kHd m z) tyU g.1.1 (b := 1) (by decide) ht.1 ch (fun p hp => (ha_x.2.2.1 p hp).1) (fun p hp => ⟨(ha_x.2.2.2 p hp).1, (ha_x.2.2.2 p hp).2.1⟩), (ch.fld tyU (h := 1) (c := 0) (x := 3) (by decide) rfl (by decide) (fun y => (ha_x.2.2.1 _ y).1 rfl)).1.trans ht.2⟩
      exact Or.inr ⟨b, p, m, t, ⟨hz, g1.reB (fun w hw => by cases hw), CL_cnw (s := z) cl, jb.fix fx, ⟨E, T, A, ⟨kbz, fb.trans kb.2⟩, hT, kl, co⟩, ck.fix fx, k13, k17, hp⟩, rn.same f12 e3, htz, h1, h2⟩
theorem te_a_0 : ∀ b ∈ [5, 7], ∀ p ∈ [((b : Nat), (2 : Nat))], (¬ p = (0, 10)) ∧ (¬ p = (0, 11)) := by decide +kernel
theorem te_a_1 : ∀ b ∈ [5, 7], ∀ p ∈ [((b : Nat), (2 : Nat))], (¬ p = (0, 12)) ∧ (¬ p = (0, 13)) := by decide +kernel
theorem te_a_2 : ∀ b ∈ [5, 7], ∀ p ∈ [((b : Nat), (2 : Nat))], (¬ p = (0, 17)) ∧ (¬ p = (59, 17)) := by decide +kernel
theorem te_a_3 : ∀ b ∈ [5, 7], ∀ p ∈ [((b : Nat), (2 : Nat))], (¬ p = (59, 16)) ∧ (¬ p.1 = 1) := by decide +kernel
theorem te_a_4 : ∀ b ∈ [5, 7], ∀ p ∈ [((b : Nat), (2 : Nat))], (¬ p.1 ∈ OFb) ∧ (∀ c ∈ CNs, (¬ p = (c, 0)) ∧ (¬ p = (c, 3)) ∧ ¬ p = (c, 7)) := by decide +kernel
theorem te_a (b : Nat) (hb : b ∈ [5, 7]) : ∀ p ∈ [((b : Nat), (2 : Nat))], (¬ p = (0, 10)) ∧ (¬ p = (0, 11)) ∧ (¬ p = (0, 12)) ∧ (¬ p = (0, 13)) ∧ (¬ p = (0, 17)) ∧ (¬ p = (59, 17)) ∧ (¬ p = (59, 16)) ∧ (¬ p.1 = 1) ∧ (¬ p.1 ∈ OFb) ∧ (∀ c ∈ CNs, (¬ p = (c, 0)) ∧ (¬ p = (c, 3)) ∧ ¬ p = (c, 7)) := fun p hp => ⟨(te_a_0 b hb p hp).1, (te_a_0 b hb p hp).2, (te_a_1 b hb p hp).1, (te_a_1 b hb p hp).2, (te_a_2 b hb p hp).1, (te_a_2 b hb p hp).2, (te_a_3 b hb p hp).1, (te_a_3 b hb p hp).2, (te_a_4 b hb p hp).1, (te_a_4 b hb p hp).2⟩
theorem te_b_0 : ∀ b ∈ [5, 7], ∀ p ∈ [((b : Nat), (1 : Nat))], p ∈ OWs ∧ (¬ p.1 ∈ OFb) := by decide +kernel
theorem te_b_1 : ∀ b ∈ [5, 7], ∀ p ∈ [((b : Nat), (1 : Nat))], (¬ p.1 = 1) := by decide +kernel
theorem te_b (b : Nat) (hb : b ∈ [5, 7]) : ∀ p ∈ [((b : Nat), (1 : Nat))], p ∈ OWs ∧ (¬ p.1 ∈ OFb) ∧ (¬ p.1 = 1) := fun p hp => ⟨(te_b_0 b hb p hp).1, (te_b_0 b hb p hp).2, te_b_1 b hb p hp⟩
theorem te_x (b : Nat) (hb : b ∈ [5, 7]) : (∀ p ∈ [((b : Nat), (2 : Nat))], (¬ p = (0, 10)) ∧ (¬ p = (0, 11)) ∧ (¬ p = (0, 12)) ∧ (¬ p = (0, 13)) ∧ (¬ p = (0, 17)) ∧ (¬ p = (59, 17)) ∧ (¬ p = (59, 16)) ∧ (¬ p.1 = 1) ∧ (¬ p.1 ∈ OFb) ∧ (∀ c ∈ CNs, (¬ p = (c, 0)) ∧ (¬ p = (c, 3)) ∧ ¬ p = (c, 7))) ∧ ∀ p ∈ [((b : Nat), (1 : Nat))], p ∈ OWs ∧ (¬ p.1 ∈ OFb) ∧ (¬ p.1 = 1) := ⟨te_a b hb, te_b b hb⟩
theorem take_TORN {T : List Int32} {n : Nat} (h : TORN T) : TORN (T.take n) := by
  rcases h with e | ⟨bl, ns, h1, h2, R, h3⟩
  · rw [e, List.take_nil]; exact Or.inl rfl
  · exact Or.inr ⟨bl, ns, h1, by rw [List.length_take]; omega, T.drop n ++ R, by rw [h3, ← List.append_assoc, List.take_append_drop]⟩
theorem kI_tear (ty : kTY s) (h : INV f s) (x : Int32) : kjY kPP (kQQ Y) (d + 1) 17 0 (mjL0 2 [.ref 0, .int x]) [] s (fun r u => (∃ y, r = some (.int y)) ∧ INV f u) := by
  rcases id h with ⟨nmm, ks, b, E, p, m, I, Q, t, hL, rn, cn, ht, h1, h2⟩ | ⟨b, p, m, t, hD, rn, ht, h1, h2⟩
  · obtain ⟨hm, g, -, jb, kb, -, -, -, -, up_⟩ := id hL
    refine kjY_mono ty (fun v z tz _ q => ?_) (kjY_un ty hm.1 hm.2 (kx_tear (d := d) (kTY_kUn ty) g jb.1 jb.2.1 kb.1 x))
    obtain ⟨-, hz, v0, q⟩ := q
    refine ⟨v0, ?_⟩
    rcases q with e | ⟨q, -⟩
    · have e2 : z = s := by
        rw [← kSh_un hz.1 hz.2, ← kSh_un hm.1 hm.2]
        exact congrArg (kSh (4 * m) 1) e
      rw [e2]; exact h
    · exact absurd q up_
  · obtain ⟨hm, g, ⟨cn, lv⟩, jb, ⟨E, T, A, kb, hT, kl, co⟩, ck, z13, z17, hp⟩ := id hD
    refine kjY_mono ty (fun v z tz _ q => ?_) (kjY_un ty hm.1 hm.2 (kx_tear (d := d) (kTY_kUn ty) g jb.1 jb.2.1 kb.1 x))
    obtain ⟨-, hz, v0, q⟩ := q
    refine ⟨v0, ?_⟩
    rcases q with e | ⟨-, g1, m1, hm1, k1, k2, ch⟩
    · have e2 : z = s := by
        rw [← kSh_un hz.1 hz.2, ← kSh_un hm.1 hm.2]
        exact congrArg (kSh (4 * m) 1) e
      rw [e2]; exact h
    have tyU := kTY_kUn (S := 4 * m) (T := 1) ty
    have ch : Ch false [(b, 2)] [(b, 1)] (kHd m s) (kHd m z) := ch
    obtain ⟨x1, x2⟩ := te_x b jb.1
    have f0 := fun y (hy : ¬ (0, y) ∈ [((b : Nat), (2 : Nat))]) => ch.fld tyU (h := 0) (c := 9) (x := y) (by decide) rfl (by decide) hy
    have f7 := ch.fld tyU (h := 59) (c := 4) (x := 17) (by decide) rfl (by decide) (fun y => (x1 _ y).2.2.2.2.2.1 rfl)
    have f6 := ch.fld tyU (h := 59) (c := 4) (x := 16) (by decide) rfl (by decide) (fun y => (x1 _ y).2.2.2.2.2.2.1 rfl)
    have fx : FIX s z := ⟨(f0 10 (fun y => (x1 _ y).1 rfl)).2.2, (f0 11 (fun y => (x1 _ y).2.1 rfl)).2.2, f7.1, f6.2.1⟩
    have al : ALS s z := ALS.ch (σ := kHd m s) (u := kHd m z) tyU g.1.1 ch (fun p hp => ⟨(x1 p hp).2.2.2.2.2.2.2.2.1, (x1 p hp).2.2.2.2.2.2.2.2.2⟩) (fun p hp => ⟨(x2 p hp).1, (x2 p hp).2.1⟩)
    have htz : kBY z 1 t ∧ z.1 1 3 = 0 := ⟨kBY.fr (σ := kHd m s) (u := kHd m z) tyU g.1.1 (b := 1) (by decide) ht.1 ch (fun p hp => (x1 p hp).2.2.2.2.2.2.2.1) (fun p hp => ⟨(x2 p hp).1, (x2 p hp).2.2⟩), (ch.fld tyU (h := 1) (c := 0) (x := 3) (by decide) rfl (by decide) (fun y => (x1 _ y).2.2.2.2.2.2.2.1 rfl)).1.trans ht.2⟩
    have k1 : kBY z b ((enE E ++ T).take m1) := k1
    have k2 : z.1 b 3 = 0 := Eq.trans k2 kb.2
    have e13 : z.1 0 13 = 0 := (f0 13 (fun y => (x1 _ y).2.2.2.1 rfl)).1.trans z13
    have e17 : z.1 0 17 = 0 := (f0 17 (fun y => (x1 _ y).2.2.2.2.1 rfl)).1.trans z17
    have f12 : z.2.2.1 0 12 = s.2.2.1 0 12 := (f0 12 (fun y => (x1 _ y).2.2.1 rfl)).2.2
    have cnz : CNW z (fun _ => []) (fun _ => []) ∧ ∀ c ∈ CNs, z.1 c 0 = 0 := ⟨cn.als al, fun c hc => (al.2 c hc).2.1.trans (lv c hc)⟩
    have rz := rn.same f12 (fun c hc => (al.2 c hc).1)
    by_cases w : m1 ≤ (enE E).length
    · rw [List.take_append_of_le_length w] at k1
      obtain ⟨E1, A1, T1, t1, t2, t3, t4⟩ := KLg_cut E [] _ 0 m1 kl w
      rw [t1] at k1
      refine Or.inr ⟨b, p, m, t, ⟨hz, g1, cnz, jb.fix fx, ⟨E1, T1, A1, ⟨k1, k2⟩, t3, t2, ?_⟩, ck.fix fx, e13, e17, hp⟩, rz, htz, h1, h2⟩
      have := t4 (by show 19 * 0 + 2 * 0 + 8 * p + 0 ≤ 207584; omega)
      unfold tmK; omega
    · rw [List.take_append, List.take_of_length_le (by omega)] at k1
      exact Or.inr ⟨b, p, m, t, ⟨hz, g1, cnz, jb.fix fx, ⟨E, T.take (m1 - (enE E).length), A, ⟨k1, k2⟩, take_TORN hT, kl, co⟩, ck.fix fx, e13, e17, hp⟩, rz, htz, h1, h2⟩
end KCALLS2
