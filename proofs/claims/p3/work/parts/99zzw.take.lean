/-! open, take. -/
section TAKE
variable {Y : Nat → MethodName × ByteArray} {d : Nat}
theorem tpA_le {I I' : Nat → Nat} (h : ∀ k, I' k ≤ I k) : tpA I' ≤ tpA I := by
  have h0 := h 0; have h1 := h 1; have h2 := h 2; have h3 := h 3
  unfold tpA; omega
theorem CL.tpg {I I' : Nat → Nat} {G G' : Nat → List Req} (l : CL I I' G G') : tpG G' ≤ tpG G := by
  have b0 := (l.le 0).2; have b1 := (l.le 1).2; have b2 := (l.le 2).2; have b3 := (l.le 3).2
  unfold tpG; omega
set_option maxRecDepth 100000 in
theorem g_open {σ : mjS} {bud : Nat} (h : GI σ bud) (ty : mjTY σ) (x1 : Int32) : mjY mjPP (mjQQ Y) (d + 2) 175 0 (mjL0 2 [.ref 0, .int x1]) [] σ (gK bud) := by
  refine mjZ_y rfl rfl 3 _ _ _ _ ty ?_
  refine (And.intro rfl (And.intro (Or.inl rfl) (fun ty' => ?_)))
  have go : ∀ u : mjS, mjTY u → u = (upd σ.1 f_thrownCode 0, σ.2) → mjY mjPP (mjQQ Y) (d + 2) 175 3 [some (.ref 0), some (.int x1)] [] u (gK bud) := by
    intro u tu eu
    have hu : GI u bud := h.th (by rw [eu]; exact Fr.i (by decide))
    have no : mjY mjPP (mjQQ Y) (d + 2) 175 9 [some (.ref 0), some (.int x1)] [] u (gK bud) := by
      refine mjZ_y rfl rfl 2 _ _ _ _ tu ?_
      refine And.intro rfl (And.intro (Or.inr ⟨rfl, Or.inl rfl⟩) ?_)
      exact ⟨⟨_, rfl⟩, hu⟩
    refine mjZ_y rfl rfl 2 _ _ _ _ tu ?_
    refine (And.intro (Nat.le_of_ble_eq_true rfl) (And.intro (Nat.le_of_ble_eq_true rfl) (And.intro (Nat.le_of_ble_eq_true rfl) (mjY_mono tu (fun q_ v tv h_ => ?_) (c_isConnection tu x1)))))
    have k := h_
    intro _
    obtain ⟨rfl, ⟨c, hc, ec, rfl⟩ | ⟨-, rfl⟩⟩ := k
    · refine mjZ_y rfl rfl 1 _ _ _ _ tv ?_
      refine And.intro (fun q => ?_) (fun q => ?_)
      · exact absurd (show (1 : Int32) = 0 from q) (by decide)
      refine mjZ_y rfl rfl 3 _ _ _ _ tv ?_
      refine (And.intro rfl (And.intro (fun r => ?_) (fun r => ?_)))
      · obtain ⟨ws, ks, l, qe, we, ce, I, G, P, t, g1, g2, ⟨t1, t2, t3, t4, t5, t6⟩, ⟨eT, g3⟩, g4, g5⟩ := hu
        have v1 : vp_in x1 4 := by rw [ec]; exact vp_in_nI hc (by decide)
        have c1 : x1.toNatClampNeg = c := by rw [ec]; exact nI_clamp (by omega)
        refine mjZ_y rfl rfl 3 _ _ _ _ tv ?_
        refine (And.intro (Nat.le_of_ble_eq_true rfl) (And.intro rfl (And.intro (Nat.le_of_ble_eq_true rfl) (And.intro (Nat.le_of_ble_eq_true rfl) (mjY_mono tv (fun q_ w tw h_ => ?_) (x_close tv hc ec))))))
        obtain ⟨rfl, ew⟩ := h_
        intro _
        have f : Fr [] c2H v w := by rw [ew]; exact zrS_fr _ _ _
        have h1 : Wd w ws ks l := by rw [ew]; exact g1.wt (zrS_fr v c2H c) (WT_z g1.2.2.2.2 _ _ (by decide) (by decide)) (by decide) (by decide)
        have xz : CX w qe we ce (I0 I c) (G0 G c) := by rw [ew]; exact CX_z g2 c
        have lz := CL.z I G c
        refine mjZ_y rfl rfl 12 _ _ _ _ tw ?_
        refine (And.intro rfl (And.intro rfl (And.intro v1 (fun tw' => (And.intro rfl (And.intro (Or.inr ⟨rfl, Or.inr rfl⟩) (And.intro v1 (fun tw'' => And.intro rfl (And.intro (Or.inr ⟨rfl, Or.inr rfl⟩) ?_)))))))))
        have fin : ∀ z : mjS, Fr [] [r_outSize, r_opened] w z → z.2.2.1 r_outSize = upd (w.2.2.1 r_outSize) c (nI 0) → z.2.2.1 r_opened = upd (w.2.2.1 r_opened) c (nI 1) → GI z bud := by
          intro z fz e1 e2
          have fa : Fr [] (r_outSize :: c2H) v z := (f.up (by decide) (by decide)).tr (fz.up (by decide) (by decide))
          have xy : CX z qe we ce (I0 I c) (G0 G c) := by
            refine xz.mk (fun k _ => fz.1 k (by simp)) (fun g hg => (fz.2.2 g ((by decide : ∀ g ∈ [r_queuedAt, r_queue, r_channelAt, r_channelLen], g ∉ [r_outSize, r_opened]) g hg)).1) (fun k hk => ?_)
            obtain ⟨⟨a1, a2, a3⟩, ⟨m, hm, em⟩, -⟩ := xz.1 k hk
            refine ⟨?_, ?_, Or.inl ⟨rfl, by rw [(fz.2.2 _ (by decide)).1]⟩, Or.inl (by rw [(fz.2.2 _ (by decide)).1])⟩
            · rw [e2, (fz.2.2 r_inSize (by decide)).1]
              refine ⟨a1, a2, fun o => ?_⟩
              by_cases y : k = c
              · subst y
                rw [pk_us (f := w.2.2.1 r_opened) (k := k) (x := nI 1)] at o
                exact absurd o (by decide)
              · rw [pk_un y] at o; exact a3 o
            · unfold bnd
              rw [e1]
              by_cases y : k = c
              · subst y
                exact ⟨0, Nat.zero_le _, pk_us (f := w.2.2.1 r_outSize) (k := k) (x := nI 0)⟩
              · exact ⟨m, hm, by rw [pk_un y]; exact em⟩
          have a1 := tpA_le lz.leI
          have a2 := lz.tpg
          refine ⟨ws, ks, l, qe, we, ce, I0 I c, G0 G c, P, t, h1.fr fz (by decide) (by decide), xy, ⟨t1.fr fa (by decide), by rw [fa.1 _ (by decide)]; exact t2, by rw [fa.1 _ (by decide)]; exact t3, by rw [fa.2.1 _ (by decide)]; exact t4, t5.fr fa (by decide), t6.cl lz⟩, ⟨by rw [fa.1 _ (by decide)]; exact eT, by omega⟩, ?_, by omega, by omega, by omega⟩
          rw [fa.1 f_up (by decide)]
          rcases g4 with ⟨a, b⟩ | ⟨a, b, c⟩
          · exact Or.inl ⟨a, b.fr fa (by decide) (by decide)⟩
          · exact Or.inr ⟨a, b, c.fr fa (by decide) (by decide)⟩
        refine ⟨⟨_, rfl⟩, fin _ ((Fr.a (h := r_outSize) (by decide)).tr (Fr.a (h := r_opened) (by decide))) ?_ ?_⟩
        · show mjIu (mjIu w.2.2.1 r_outSize x1.toNatClampNeg 0) r_opened x1.toNatClampNeg 1 r_outSize = _
          rw [mjIu_ne (by decide), mjIu_self, c1]; rfl
        · show mjIu (mjIu w.2.2.1 r_outSize x1.toNatClampNeg 0) r_opened x1.toNatClampNeg 1 r_opened = _
          rw [mjIu_self, c1, mjIu_ne (by decide)]; rfl
      · exact no
    · refine mjZ_y rfl rfl 1 _ _ _ _ tv ?_
      refine And.intro (fun q => ?_) (fun q => ?_)
      · exact no
      · exact absurd (show (0 : Int32) = 0 from rfl) q
  exact go _ ty' rfl
set_option maxRecDepth 100000 in
theorem c_takeB_loop (K : mjK) {c n m : Nat} (hc : c < 4) (hm : m + n ≤ 65536) (x1 x2 x3 : Int32) (e1 : x1 = nI c) (e2 : x2 = nI n) (e3 : x3 = nI (65536 * c)) : ∀ (j k : Nat) (σ : mjS) (x4 : Int32), x4 = nI k → k + j = m → mjTY σ → σ.2.2.1 r_outSize c = nI m → (∀ u x4, mjTY u → Fr [] [r_output] σ u → mjY mjPP (mjQQ Y) d 179 52 [some (.ref 0), some (.int x1), some (.int x2), some (.int x3), some (.int x4)] [] u K) →
    mjY mjPP (mjQQ Y) d 179 30 [some (.ref 0), some (.int x1), some (.int x2), some (.int x3), some (.int x4)] [] σ K := by
  have v1 : vp_in x1 4 := by rw [e1]; exact vp_in_nI hc (by decide)
  have c1 : x1.toNatClampNeg = c := by rw [e1]; exact nI_clamp (by omega)
  intro j
  induction j with
  | zero =>
    intro k σ x4 e4 hk ty eo hK
    refine mjZ_y rfl rfl 6 _ _ _ _ ty ?_
    refine (And.intro rfl (And.intro rfl (And.intro v1 (And.intro (fun q => ?_) (fun q => ?_)))))
    · exact hK σ _ ty Fr.rf
    · exact absurd (show σ.2.2.1 r_outSize x1.toNatClampNeg ≤ x4 by rw [c1, eo, e4]; exact nI_le (by omega) (by omega)) q
  | succ j ih =>
    intro k σ x4 e4 hk ty eo hK
    refine mjZ_y rfl rfl 6 _ _ _ _ ty ?_
    refine (And.intro rfl (And.intro rfl (And.intro v1 (And.intro (fun q => ?_) (fun q => ?_)))))
    · exact absurd (show σ.2.2.1 r_outSize x1.toNatClampNeg ≤ x4 from q) (by rw [c1, eo, e4]; exact nI_ge (by omega) (by omega))
    have i1 : x3 + x4 = nI (65536 * c + k) := by rw [e3, e4, nI_add]
    have i2 : x3 + x2 + x4 = nI (65536 * c + n + k) := by rw [e3, e2, e4, nI_add, nI_add]
    refine mjZ_y rfl rfl 16 _ _ _ _ ty ?_
    refine (And.intro rfl (And.intro rfl (And.intro (Or.inl rfl) (And.intro (show vp_in (x3 + x2 + x4) 262144 by rw [i2]; exact vp_in_nI (by omega) (by decide)) (And.intro (Or.inl ⟨rfl, ty.2.1 33 _ rfl⟩) (And.intro (show vp_in (x3 + x4) 262144 by rw [i1]; exact vp_in_nI (by omega) (by decide)) (fun ty' => ?_)))))))
    exact ih (k + 1) _ _ (by rw [e4]; exact nI_1 k) (by omega) ty' eo (fun u x4 tu fu => hK u x4 tu ((Fr.a (by decide)).tr fu))
set_option maxRecDepth 100000 in
theorem g_take {σ : mjS} {bud : Nat} (h : GI σ bud) (ty : mjTY σ) (x1 x2 : Int32) : mjY mjPP (mjQQ Y) (d + 1) 179 0 (mjL0 5 [.ref 0, .int x1, .int x2]) [] σ (gK bud) := by
  refine mjZ_y rfl rfl 3 _ _ _ _ ty ?_
  refine (And.intro rfl (And.intro (Or.inl rfl) (fun ty' => ?_)))
  have go : ∀ u : mjS, mjTY u → u = (upd σ.1 f_thrownCode 0, σ.2) → mjY mjPP (mjQQ Y) (d + 1) 179 3 [some (.ref 0), some (.int x1), some (.int x2), none, none] [] u (gK bud) := by
    intro u tu eu
    have hu : GI u bud := h.th (by rw [eu]; exact Fr.i (by decide))
    have no : mjY mjPP (mjQQ Y) (d + 1) 179 14 [some (.ref 0), some (.int x1), some (.int x2), none, none] [] u (gK bud) := by
      refine mjZ_y rfl rfl 2 _ _ _ _ tu ?_
      refine And.intro rfl (And.intro (Or.inr ⟨rfl, Or.inl rfl⟩) ?_)
      exact ⟨⟨_, rfl⟩, hu⟩
    refine mjZ_y rfl rfl 2 _ _ _ _ tu ?_
    refine (And.intro (Nat.le_of_ble_eq_true rfl) (And.intro (Nat.le_of_ble_eq_true rfl) (And.intro (Nat.le_of_ble_eq_true rfl) (mjY_mono tu (fun q_ v tv h_ => ?_) (c_isConnection tu x1)))))
    have k := h_
    intro _
    obtain ⟨rfl, ⟨c, hc, ec, rfl⟩ | ⟨-, rfl⟩⟩ := k
    · have v1 : vp_in x1 4 := by rw [ec]; exact vp_in_nI hc (by decide)
      have c1 : x1.toNatClampNeg = c := by rw [ec]; exact nI_clamp (by omega)
      obtain ⟨m, hm, em⟩ := hu.cn c hc
      refine mjZ_y rfl rfl 1 _ _ _ _ tv ?_
      refine And.intro (fun q => ?_) (fun q => ?_)
      · exact absurd (show (1 : Int32) = 0 from q) (by decide)
      refine mjZ_y rfl rfl 2 _ _ _ _ tv ?_
      refine And.intro (fun a => ?_) (fun a => ?_)
      · exact no
      have a : ¬ x2 < 0 := a
      obtain ⟨e2, e31⟩ := i32_nn a
      obtain ⟨n, hn⟩ : ∃ n, n = x2.toNatClampNeg := ⟨_, rfl⟩
      rw [← hn] at e2 e31
      refine mjZ_y rfl rfl 6 _ _ _ _ tv ?_
      refine (And.intro rfl (And.intro rfl (And.intro v1 (And.intro (fun b => ?_) (fun b => ?_)))))
      · have b : x2 ≤ v.2.2.1 r_outSize x1.toNatClampNeg := b
        rw [c1, em, e2] at b
        have hnm : n ≤ m := Nat.le_of_not_lt (fun z => absurd b (nI_ge z (by omega)))
        have es : v.2.2.1 r_outSize x1.toNatClampNeg - x2 = nI (m - n) := by rw [c1, em, e2, pk_sub hnm]
        refine mjZ_y rfl rfl 14 _ _ _ _ tv ?_
        refine (And.intro rfl (And.intro rfl (And.intro v1 (And.intro rfl (And.intro v1 (fun tv' => (And.intro (Nat.le_of_ble_eq_true rfl) (And.intro (Nat.le_of_ble_eq_true rfl) ?_))))))))
        have go2 : ∀ w : mjS, mjTY w → Fr [] [r_outSize] v w → w.2.2.1 r_outSize = upd (v.2.2.1 r_outSize) c (nI (m - n)) → mjY mjPP (mjQQ Y) (d + 1) 179 30 [some (.ref 0), some (.int x1), some (.int x2), some (.int (Int32.ofInt 65536 * x1)), some (.int (Int32.ofInt 0))] [] w (gK bud) := by
          intro w tw fw ew
          have e0 : Int32.ofInt 65536 * x1 = nI (65536 * c) := by
            have := nI_mul65536 c 0
            rw [ec]
            rw [show nI 0 = 0 from rfl, Int32.add_zero] at this
            exact this
          refine c_takeB_loop _ hc (n := n) (m := m - n) (by omega) x1 x2 _ ec e2 e0 (m - n) 0 w _ rfl (by omega) tw (by rw [ew]; exact pk_us (f := v.2.2.1 r_outSize) (k := c) (x := nI (m - n))) (fun z x4 tz fz => ?_)
          refine mjZ_y rfl rfl 2 _ _ _ _ tz ?_
          refine And.intro rfl (And.intro (Or.inr ⟨rfl, Or.inr rfl⟩) ?_)
          refine ⟨⟨_, rfl⟩, ?_⟩
          have fa : Fr [] [r_outSize, r_output] v z := (fw.up (by decide) (by decide)).tr (fz.up (by decide) (by decide))
          obtain ⟨ws, ks, l, qe, we, ce, I, G, P, t, g1, g2, ⟨t1, t2, t3, t4, t5, t6⟩, ⟨eT, g3⟩, g4, g5⟩ := hu
          have xy : CX z qe we ce I G := by
            refine g2.mk (fun k _ => fa.1 k (by simp)) (fun g hg => (fa.2.2 g ((by decide : ∀ g ∈ [r_queuedAt, r_queue, r_channelAt, r_channelLen], g ∉ [r_outSize, r_output]) g hg)).1) (fun k hk => ?_)
            obtain ⟨a1, ⟨m', hm', em'⟩, -⟩ := g2.1 k hk
            refine ⟨by rw [(fa.2.2 r_inSize (by decide)).1, (fa.2.2 r_opened (by decide)).1]; exact a1, ?_, Or.inl ⟨rfl, by rw [(fa.2.2 _ (by decide)).1]⟩, Or.inl (by rw [(fa.2.2 _ (by decide)).1])⟩
            unfold bnd
            rw [(fz.2.2 r_outSize (by decide)).1, ew]
            by_cases y : k = c
            · subst y
              exact ⟨m - n, by omega, pk_us (f := v.2.2.1 r_outSize) (k := k) (x := nI (m - n))⟩
            · exact ⟨m', hm', by rw [pk_un y]; exact em'⟩
          refine ⟨ws, ks, l, qe, we, ce, I, G, P, t, g1.fr fa (by decide) (by decide), xy, ⟨t1.fr fa (by decide), by rw [fa.1 _ (by decide)]; exact t2, by rw [fa.1 _ (by decide)]; exact t3, by rw [fa.2.1 _ (by decide)]; exact t4, t5.fr fa (by decide), t6⟩, ⟨by rw [fa.1 _ (by decide)]; exact eT, g3⟩, ?_, g5⟩
          rw [fa.1 f_up (by decide)]
          rcases g4 with ⟨a, b⟩ | ⟨a, b, c⟩
          · exact Or.inl ⟨a, b.fr fa (by decide) (by decide)⟩
          · exact Or.inr ⟨a, b, c.fr fa (by decide) (by decide)⟩
        refine go2 _ tv' (Fr.a (by decide)) ?_
        show mjIu v.2.2.1 r_outSize x1.toNatClampNeg (v.2.2.1 r_outSize x1.toNatClampNeg - x2) r_outSize = _
        rw [mjIu_self, es, c1]
      · exact no
    · refine mjZ_y rfl rfl 1 _ _ _ _ tv ?_
      refine And.intro (fun q => ?_) (fun q => ?_)
      · exact no
      · exact absurd (show (0 : Int32) = 0 from rfl) q
  exact go _ ty' rfl
end TAKE
