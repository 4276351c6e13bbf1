/-! Send: what is due behind a request; the look at a request. -/
section KSFIN
variable {Y : Nat → MethodName × ByteArray} {d : Nat} {s u : kS} {ws : Req} {c f n e k r m : Nat} {x4 : Int32} {bl : Bool}
theorem fn_x : ∀ b ∈ [5, 7], (∀ p ∈ [((0, 10) : Nat × Nat), (0, 11), (59, 17), (59, 16)], ¬ p ∈ fnF b) ∧ (∀ p ∈ fnF b, ¬ p.1 = 1) ∧ (∀ p ∈ fnO b, p ∈ OWs ∧ ¬ p.1 = 1) := by decide +kernel
theorem fn_y : ∀ b ∈ [5, 7], (¬ (0, 12) ∈ fnF b) ∧ ∀ c ∈ CNs, ¬ (c, 3) ∈ fnF b := by decide +kernel
theorem CL_cnw (h : ∀ c ∈ CNs, CLRd s c) : CNW s (fun _ => []) (fun _ => []) ∧ ∀ c ∈ CNs, s.1 c 0 = 0 := by
  refine ⟨fun c hc => ?_, fun c hc => ?_⟩
  · obtain ⟨bk, h1, h2, h3, h4, h5, h6, h7, h8⟩ := h c hc
    exact ⟨h4, ⟨bk, h1, h2, h3⟩, h7, Nat.zero_le _, fun q hq => by cases hq⟩
  · obtain ⟨bk, h1, h2, h3, h4, h5, h6, h7, h8⟩ := h c hc
    exact h5
theorem kS_fin (ty : kTY u) (h : FW c f x4 n bl e k r m ws u) (hc : c ∈ CNs) (hk : bl = false → k ≤ 1) (he : bl = true → 29 ≤ e) (x7 : Int32) (e7 : x7 = nI n) : kjY kPP (kQQ Y) (d + 8) 28 0 (mjL0 3 [.ref 0, .ref c, .int x7]) [] u (fun v z => v = none ∧ SLp c f x4 z) := by
  obtain ⟨nmm, ks, b, E, A0, ns, p, I, Q, hm, g, ⟨h1, h2, h3, h4⟩, ⟨b1, b2, b3⟩, ⟨c1, c2, c3, c4, c5⟩, ck, up_, rn, cn, tp, rd⟩ := h
  obtain ⟨b11, b12, -⟩ := id b1
  have eL : enE E ++ pendB bl ns ++ exC (u.1 0 13) (u.1 0 14) = enE E ++ blkB bl ns := by rw [List.append_assoc, fin_blk c1]
  have pl := (pend_len (bl := bl) (ns := ns)).2
  have hl : (enE E ++ pendB bl ns ++ exC (u.1 0 13) (u.1 0 14)).length ≤ 210000 := by rw [eL, List.length_append]; omega
  refine kjY_mono ty (fun v z tz _ q => ?_) (kjY_un ty hm.1 hm.2 (kx_finish (d := d) (kTY_kUn ty) g rn.1 hc b11 b12 b2 (n := n) (by rw [b3, List.length_append]; omega) x7 e7 hl))
  obtain ⟨-, hz, v0, z13, bj, ch, q⟩ := q
  refine ⟨v0, ?_⟩
  have tyU := kTY_kUn (S := 4 * m) (T := 1) ty
  have ch : Ch true (fnF b) (fnO b) (kHd m u) (kHd m z) := ch
  obtain ⟨x1, x2, x3⟩ := fn_x b b11
  obtain ⟨y1, y2⟩ := fn_y b b11
  have fx : FIX u z := FIX.ch (s := kHd m u) (u := kHd m z) tyU ch x1
  have f12 : z.2.2.1 0 12 = u.2.2.1 0 12 := (ch.fld tyU (h := 0) (c := 9) (by decide) rfl (by decide) y1).2.2
  have e3 : ∀ c' ∈ CNs, z.2.2.1 c' 3 = u.2.2.1 c' 3 := fun c' hc' => (ch.fld tyU (CN_w c' hc').1 (CN_w c' hc').2 (by decide) (y2 c' hc')).2.2
  have rz : RNW z := rn.same f12 e3
  have tz' : TAP z := TAP.ch (s := kHd m u) (u := kHd m z) tyU g.1.1.1 tp ch x2 x3
  obtain ⟨E', eE, kE, cE⟩ := fin_E (e := e) c2 c3 (fun y => Nat.le_trans c5 (hk y)) he c4
  have hrw := rd.rw_le hc
  rcases q with ⟨g1, k1, k2, k3, fn⟩ | ⟨g1, k1, k2, m1, k3, k4, k5, k6⟩
  · have fn : FNc c u z := fn
    have k1 : kBY z b (enE E ++ pendB bl ns ++ exC (u.1 0 13) (u.1 0 14)) := k1
    rw [eL, ← eE] at k1
    obtain ⟨I', Q', n1, n2, n3, n4⟩ := cn.fn rn.1 e3 hc fn
    refine Or.inl ⟨nmm, ks, b, E', p, m, I', Q', ⟨hz, g1, ⟨h1, h2, h3, h4⟩, b1.fix fx, ⟨k1, k2⟩, kE, cE, ck.fix fx, z13, by rw [show z.1 0 17 = u.1 0 17 from k3]; exact up_⟩, rz, n1, tz', ?_⟩
    have l2 : sQu Q' ≤ sQu Q := sC_le (fun c' hc' => by
      rcases n3 c' hc' with y | y
      · rw [y]; exact Nat.le_refl _
      · rw [y]; exact Nat.zero_le _)
    have l1 : sIn I' ≤ sIn I := sC_le (fun c' hc' => by
      by_cases w : c' = c
      · rw [w]
        rcases n4 with ⟨y, -⟩ | ⟨y, -⟩
        · rw [y]; exact Nat.le_refl _
        · rw [y]; exact Nat.zero_le _
      · rw [n2 c' hc' w]; exact Nat.le_refl _)
    exact rd.le hc l1 (by omega) (fun c' hc' w => by rw [n2 c' hc' w]; exact Nat.le_refl _) n4
  · have k5 : kBY z b ((enE E ++ pendB bl ns ++ exC (u.1 0 13) (u.1 0 14)).take m1) := k5
    rw [eL, ← eE] at k5
    have k4 : m1 ≤ (enE E ++ pendB bl ns ++ exC (u.1 0 13) (u.1 0 14)).length := k4
    rw [eL, ← eE] at k4
    obtain ⟨E1, A1, T, t1, t2, t3, t4⟩ := KLg_cut E' [] _ 0 m1 kE k4
    rw [t1] at k5
    refine Or.inr ⟨b, p, m, ⟨hz, g1.reB (fun w hw => by cases hw), CL_cnw (s := z) k1, b1.fix fx, ⟨E1, T, A1, ⟨k5, k6⟩, t3, t2, ?_⟩, ck.fix fx, z13, k2, h4⟩, rz, tz', by omega, ?_⟩
    · have := t4 (by show 19 * 0 + 2 * 0 + 8 * p + 0 ≤ 207584; omega)
      unfold tmK; omega
    · obtain ⟨a0, a1, a2, a2', a3, a4⟩ := rd
      have o : (I c).length ≤ sIn I := sC_at (f := fun c => (I c).length) hc
      omega
end KSFIN
