/-! rewrite: the new log. -/
section REWRITE3
variable {Y : Nat → MethodName × ByteArray} {d : Nat}
set_option maxRecDepth 100000 in
theorem c_rw_cpy (K : mjK) {n : Nat} (hn : n ≤ 420000) (x1 : Int32) (l3 l4 l5 l6 l7 l8 l9 : Option Value) (e1 : x1 = nI n) (S R0 : Nat → Int32) : ∀ (j k : Nat) (σ : mjS) (x2 : Int32), x2 = nI k → k + j = n → mjTY σ → σ.2.2.1 r_pending = S → σ.2.2.1 r_disk = va_cpy S R0 0 0 k → (∀ u x2, mjTY u → Fr [] [r_disk] σ u → u.2.2.1 r_disk = va_cpy S R0 0 0 n → mjY mjPP (mjQQ Y) d 191 223 [some (.ref 0), some (.int x1), some (.int x2), l3, l4, l5, l6, l7, l8, l9] [] u K) →
    mjY mjPP (mjQQ Y) d 191 210 [some (.ref 0), some (.int x1), some (.int x2), l3, l4, l5, l6, l7, l8, l9] [] σ K := by
  intro j
  induction j with
  | zero =>
    intro k σ x2 e2 hk ty eS eR hK
    have ek : k = n := by omega
    subst ek
    refine mjZ_y rfl rfl 3 _ _ _ _ ty ?_
    refine And.intro (fun q => ?_) (fun q => ?_)
    · exact hK σ _ ty Fr.rf eR
    · exact absurd (show x1 ≤ x2 by rw [e1, e2]; exact nI_le (by omega) (by omega)) q
  | succ j ih =>
    intro k σ x2 e2 hk ty eS eR hK
    refine mjZ_y rfl rfl 3 _ _ _ _ ty ?_
    refine And.intro (fun q => ?_) (fun q => ?_)
    · exact absurd (show x1 ≤ x2 from q) (by rw [e1, e2]; exact nI_ge (by omega) (by omega))
    refine mjZ_y rfl rfl 10 _ _ _ _ ty ?_
    refine (And.intro rfl (And.intro rfl (And.intro (Or.inl rfl) (And.intro (show vp_in x2 420000 by rw [e2]; exact vp_in_nI (by omega) (by decide)) (And.intro (Or.inl ⟨rfl, ty.2.1 52 _ rfl⟩) (And.intro (show vp_in x2 700000 by rw [e2]; exact vp_in_nI (by omega) (by decide)) (fun ty' => ?_)))))))
    refine ih (k + 1) _ _ (by rw [e2]; exact nI_1 k) (by omega) ty' eS ?_ (fun u x2 tu fu eu => hK u x2 tu ((Fr.a (by decide)).tr fu) eu)
    show mjIu σ.2.2.1 r_disk x2.toNatClampNeg (σ.2.2.1 r_pending x2.toNatClampNeg) r_disk = _
    rw [mjIu_self, e2, nI_clamp (by omega), eS, eR]
    have := cpy_s (f := S) (g := R0) (sp := 0) (dp := 0) (k := k)
    rw [Nat.zero_add] at this
    exact this
/-- the new log holds the list -/
theorem HI_new {σ u : mjS} {ws : Req} {ks : List KR} {l : List Int32} {P : Nat} (hW : Wd σ ws ks l) (ty : mjTY σ) (hL : LI (strip ks) P) (el : l = encs (dmR (strip ks))) (e1 : u.1 f_diskSize = nI l.length) (e2 : wd (u.2.2.1 r_disk) 0 l.length = l) : HI u (strip ks) P := by
  obtain ⟨c1, c2⟩ := dm_len hL
  have lk := LK_all (N := P) (strip ks) [] hL (hW.bya ty)
  rw [List.nil_append] at lk
  have lg := LK_LG (n := 0) lk (by omega)
  have en : enE (sgB (dmR (strip ks))) = l := by rw [sg_en, el]
  refine ⟨sgB (dmR (strip ks)), ?_, lg, hL, ?_⟩
  · rw [en]; exact ⟨e1, by rw [el]; omega, e2⟩
  · rw [sg_en]; exact c2
set_option maxRecDepth 100000 in
theorem g_rewrite {σ : mjS} {bud : Nat} (h : GI σ bud) (ty : mjTY σ) : mjY mjPP (mjQQ Y) (d + 13) 191 0 (mjL0 10 [.ref 0]) [] σ (gK bud) := by
  refine mjZ_y rfl rfl 3 _ _ _ _ ty ?_
  refine (And.intro rfl (And.intro (Or.inl rfl) (fun ty' => ?_)))
  have go : ∀ u : mjS, mjTY u → u = (upd σ.1 f_thrownCode 0, σ.2) → mjY mjPP (mjQQ Y) (d + 13) 191 3 [some (.ref 0), none, none, none, none, none, none, none, none, none] [] u (gK bud) := by
    intro u tu eu
    have hu : GI u bud := h.th (by rw [eu]; exact Fr.i (by decide))
    refine mjZ_y rfl rfl 3 _ _ _ _ tu ?_
    refine (And.intro rfl (And.intro (fun q => ?_) (fun q => ?_)))
    · have q : ¬ u.1 f_up = 0 := q
      obtain ⟨ws, ks, l, qe, we, ce, I, G, P, t, g1, g2, ⟨t1, t2, t3, t4, t5, t6⟩, ⟨eT, g3⟩, g4, g5⟩ := hu
      have hH : HI u (strip ks) P := by
        rcases g4 with ⟨-, b⟩ | ⟨b, -⟩
        · exact b
        · exact absurd b q
      have hL : LI (strip ks) P := by obtain ⟨E, -, -, z, -⟩ := hH; exact z
      obtain ⟨c1, c2⟩ := dm_len hL
      refine mjZ_y rfl rfl 5 _ _ _ _ tu ?_
      refine (And.intro rfl (And.intro (Or.inl rfl) (fun tu' => (And.intro (Nat.le_of_ble_eq_true rfl) ?_))))
      have go2 : ∀ v : mjS, mjTY v → v = (upd u.1 f_pendingSize 0, u.2) → mjY mjPP (mjQQ Y) (d + 13) 191 13 [some (.ref 0), some (.int (Int32.ofInt 0)), none, none, none, none, none, none, none, none] [] v (gK bud) := by
        intro v tv ev
        have fv : Fr [f_pendingSize] [] u v := by rw [ev]; exact Fr.i (by decide)
        have hv0 := g1.p0 fv (by rw [ev]; exact pk_us (f := u.1) (k := f_pendingSize) (x := 0))
        have rv : RWI v ws ks [] := ⟨hv0, t1.fr fv (by decide), by rw [fv.1 _ (by decide)]; exact t2, by rw [fv.1 _ (by decide)]; exact t3⟩
        refine c_rw_loop (d := d + 8) _ hL ks [] v [] _ _ _ _ _ _ _ _ _ rfl rfl tv rv (by show 0 + _ ≤ _; omega) (fun w y1 m2 m3 m4 m5 m6 m7 m8 m9 tw fw hw => ?_)
        rw [List.nil_append] at hw
        obtain ⟨L, eL⟩ : ∃ L, L = encs (dmR (strip ks)) := ⟨_, rfl⟩
        rw [← eL] at hw c1 c2
        have fw2 : Fr nF nH3 u w := (fv.up (by decide) (by decide)).tr fw
        obtain ⟨p1, p2, p3⟩ := hw.1.2.2.1
        have bw : BU w := t5.fr fw2 (by decide)
        have upw : ¬ w.1 f_up = 0 := by rw [fw2.1 _ (by decide)]; exact q
        have Hw : HI w (strip ks) P := hH.fr fw2 (by decide) (by decide)
        have fin : ∀ (y : mjS) (x2 : Int32), mjTY y → Fr [f_burning] [r_disk] w y → BU y → y.2.2.1 r_disk = va_cpy (w.2.2.1 r_pending) (w.2.2.1 r_disk) 0 0 L.length → mjY mjPP (mjQQ Y) (d + 13) 191 223 [some (.ref 0), some (.int (nI L.length)), some (.int x2), m3, m4, m5, m6, m7, m8, m9] [] y (gK bud) := by
          intro y x2 tyy fy by' ey
          refine mjZ_y rfl rfl 8 _ _ _ _ tyy ?_
          refine (And.intro rfl (And.intro (Or.inl rfl) (fun tyy' => (And.intro rfl (And.intro (Or.inl rfl) (fun tyy'' => And.intro rfl (And.intro (Or.inl rfl) ?_)))))))
          refine ⟨⟨_, rfl⟩, ?_⟩
          have f2 : ∀ z : mjS, Fr [f_diskSize, f_pendingSize] [] y z → z.1 f_diskSize = nI L.length → z.1 f_pendingSize = nI 0 → GI z bud := by
            intro z fz z1 z2
            have fa : Fr (f_burning :: f_diskSize :: nF) (r_disk :: nH3) u z := ((fw2.up (by decide) (by decide)).tr (fy.up (by decide) (by decide))).tr (fz.up (by decide) (by decide))
            have fwz : Fr [f_burning, f_diskSize, f_pendingSize] [r_disk] w z := (fy.up (by decide) (by decide)).tr (fz.up (by decide) (by decide))
            have hz : Wd z ws ks [] := by
              obtain ⟨⟨hs, fk, fe, k⟩, a, -, o, tt⟩ := hw.1
              exact ⟨⟨hs, fk, fe, k.fr fwz (by decide) (by decide)⟩, a.fr fwz (by decide) (by decide) (by decide) (by decide), ⟨z2, Nat.zero_le _, rfl⟩, o.fr fwz (by decide), tt.fr fwz (by decide) (by decide) (by decide)⟩
            have Hz : HI z (strip ks) P := HI_new hw.1 tw hL eL z1 (by rw [(fz.2.2 _ (by decide)).1, ey, cpy_wd]; exact p3)
            exact ⟨ws, ks, [], qe, we, ce, I, G, P, t, hz, g2.fr fa (by decide) (by decide), ⟨t1.fr fa (by decide), by rw [fa.1 _ (by decide)]; exact t2, by rw [fa.1 _ (by decide)]; exact t3, by rw [fa.2.1 _ (by decide)]; exact t4, by'.fr fz (by decide), t6⟩, ⟨by rw [fa.1 _ (by decide)]; exact eT, g3⟩, Or.inl ⟨by rw [fa.1 _ (by decide)]; exact q, Hz⟩, g5⟩
          refine f2 _ ((Fr.i (k := f_diskSize) (by decide)).tr (Fr.i (k := f_pendingSize) (by decide))) ?_ (pk_us (f := upd y.1 f_diskSize (nI L.length)) (k := f_pendingSize) (x := 0))
          show upd (upd y.1 f_diskSize (nI L.length)) f_pendingSize 0 f_diskSize = _
          rw [pk_un (by decide)]; exact pk_us (f := y.1) (k := f_diskSize) (x := nI L.length)
        have cpy : ∀ y : mjS, mjTY y → Fr [f_burning] [] w y → BU y → mjY mjPP (mjQQ Y) (d + 13) 191 208 [some (.ref 0), some (.int (nI L.length)), m2, m3, m4, m5, m6, m7, m8, m9] [] y (gK bud) := by
          intro y tyy fy by'
          refine mjZ_y rfl rfl 2 _ _ _ _ tyy ?_
          refine (And.intro (Nat.le_of_ble_eq_true rfl) ?_)
          have ep : y.2.2.1 r_pending = w.2.2.1 r_pending := (fy.2.2 _ (by decide)).1
          have ed : y.2.2.1 r_disk = w.2.2.1 r_disk := (fy.2.2 _ (by decide)).1
          refine c_rw_cpy _ (n := L.length) p2 (nI L.length) _ _ _ _ _ _ _ rfl (w.2.2.1 r_pending) (w.2.2.1 r_disk) L.length 0 y _ rfl (by omega) tyy ep (by rw [cpy_0]; exact ed) (fun z x2 tz fz ez => ?_)
          exact fin z x2 tz ((fy.up (by decide) (by decide)).tr (fz.up (by decide) (by decide))) (by'.fr fz (by decide)) ez
        have s199 : (w.1 f_burning = -1 ∨ ∃ b : Nat, b < 2 ^ 31 ∧ L.length ≤ b ∧ w.1 f_burning = nI b) → mjY mjPP (mjQQ Y) (d + 13) 191 199 [some (.ref 0), some (.int (nI L.length)), m2, m3, m4, m5, m6, m7, m8, m9] [] w (gK bud) := by
          intro hb
          refine mjZ_y rfl rfl 3 _ _ _ _ tw ?_
          refine (And.intro rfl (And.intro (fun r => ?_) (fun r => ?_)))
          · exact cpy w tw Fr.rf bw
          · obtain ⟨b, b1, b2, b3⟩ : ∃ b : Nat, b < 2 ^ 31 ∧ L.length ≤ b ∧ w.1 f_burning = nI b := by
              rcases hb with hb | hb
              · exact absurd (show w.1 f_burning < 0 by rw [hb]; decide) r
              · exact hb
            refine mjZ_y rfl rfl 6 _ _ _ _ tw ?_
            refine (And.intro rfl (And.intro rfl (And.intro (Or.inl rfl) (fun tw' => ?_))))
            refine cpy _ tw' (Fr.i (by decide)) (Or.inr ⟨b - L.length, by omega, ?_⟩)
            show upd w.1 f_burning (w.1 f_burning - nI L.length) f_burning = _
            rw [pk_us (f := w.1) (k := f_burning) (x := w.1 f_burning - nI L.length), b3, pk_sub b2]
        have go3 : ∀ x1 : Int32, x1 = nI L.length → mjY mjPP (mjQQ Y) (d + 13) 191 188 [some (.ref 0), some (.int x1), m2, m3, m4, m5, m6, m7, m8, m9] [] w (gK bud) := by
          intro x1 e1
          subst e1
          refine mjZ_y rfl rfl 3 _ _ _ _ tw ?_
          refine (And.intro rfl (And.intro (fun r => ?_) (fun r => ?_)))
          · rcases bw with hb | ⟨b, b1, b2⟩
            · exact s199 (Or.inl hb)
            · exact absurd (show w.1 f_burning < 0 from r) (by rw [b2]; exact nI_pos b1)
          · obtain ⟨b, b1, b2⟩ : ∃ b : Nat, b < 2 ^ 31 ∧ w.1 f_burning = nI b := by
              rcases bw with hb | hb
              · exact absurd (show w.1 f_burning < 0 by rw [hb]; decide) r
              · exact hb
            refine mjZ_y rfl rfl 4 _ _ _ _ tw ?_
            refine (And.intro rfl (And.intro (fun s => ?_) (fun s => ?_)))
            · have s : nI L.length ≤ w.1 f_burning := s
              rw [b2] at s
              exact s199 (Or.inr ⟨b, b1, Nat.le_of_not_lt (fun z => absurd s (nI_ge z (by omega))), b2⟩)
            · refine mjZ_y rfl rfl 2 _ _ _ _ tw ?_
              refine (And.intro (Nat.le_of_ble_eq_true rfl) (And.intro rfl (And.intro (Nat.le_of_ble_eq_true rfl) (And.intro (Nat.le_of_ble_eq_true rfl) (mjY_mono tw (fun q_ y tyy h_ => ?_) (c_stop (d := d + 9) hw.1 tw (g2.fr fw2 (by decide) (by decide))))))))
              obtain ⟨rfl, fy, e0, hy, I', G', xy, ly, zy⟩ := h_
              intro _
              refine mjZ_y rfl rfl 2 _ _ _ _ tyy ?_
              refine And.intro rfl (And.intro (Or.inl rfl) ?_)
              have fa : Fr (f_digitsSize :: stpF) (nH3 ++ stpH) u y := (fw2.up (by decide) (by decide)).tr (fy.up (by decide) (by decide))
              have a1 := tpA_le ly.leI
              have a2 := ly.tpg
              exact ⟨⟨_, rfl⟩, ws, [], [], qe, we, ce, I', G', P, t, hy, xy, ⟨t1.fr fa (by decide), by rw [fa.1 _ (by decide)]; exact t2, by rw [fa.1 _ (by decide)]; exact t3, by rw [fa.2.1 _ (by decide)]; exact t4, t5.fr fa (by decide), t6.cl ly⟩, ⟨by rw [fa.1 _ (by decide)]; exact eT, by omega⟩, Or.inr ⟨e0, ⟨rfl, rfl⟩, (HI_HD Hw).fr fy (by decide) (by decide)⟩, by omega, by omega, by omega⟩
        refine mjZ_y rfl rfl 3 _ _ _ _ tw ?_
        refine (And.intro rfl (And.intro (Nat.le_of_ble_eq_true rfl) ?_))
        exact go3 _ p1
      exact go2 _ tu' rfl
    · refine mjZ_y rfl rfl 2 _ _ _ _ tu ?_
      refine And.intro rfl (And.intro (Or.inl rfl) ?_)
      exact ⟨⟨_, rfl⟩, hu⟩
  exact go _ ty' rfl
end REWRITE3
