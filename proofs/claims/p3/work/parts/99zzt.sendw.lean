/-! send. -/
section SENDW
variable {Y : Nat → MethodName × ByteArray} {d : Nat}
theorem HD.fr {σ u : mjS} {fs hs : List Nat} {P : Nat} (h : HD σ P) (f : Fr fs hs σ u) (h1 : f_diskSize ∉ fs) (h2 : r_disk ∉ hs) : HD u P := by
  obtain ⟨E, A, b, ns, n, B, a, r⟩ := h
  exact ⟨E, A, b, ns, n, B, a.fr f h1 h2, r⟩
set_option maxRecDepth 100000 in
theorem c_send {σ : mjS} {bud : Nat} (h : GI σ bud) (ty : mjTY σ) (x1 : Int32) : mjY mjPP (mjQQ Y) (d + 13) 173 0 (mjL0 9 [.ref 0, .int x1]) [] σ (fun r u => (∃ z, r = some (.int z)) ∧ GI u bud) := by
  obtain ⟨ws, ks, l, qe, we, ce, I, G, P, t, g1, g2, ⟨t1, t2, t3, t4, t5, t6⟩, ⟨eT, g3⟩, g4, g5⟩ := h
  have hP : P ≤ 10240 := by
    rcases g4 with ⟨-, E, -, -, b, -⟩ | ⟨-, -, E, A, b, ns, n, B, -, -, b2, -⟩
    · have := b.2.2.1; omega
    · have := b2.2.2.1; omega
  refine mjZ_y rfl rfl 11 _ _ _ _ ty ?_
  refine (And.intro rfl (And.intro (Or.inl rfl) (fun ty' => (And.intro rfl (And.intro (Nat.le_of_ble_eq_true rfl) (And.intro rfl (And.intro (Or.inl rfl) (fun ty'' => (And.intro (Nat.le_of_ble_eq_true rfl) ?_)))))))))
  have go : ∀ (u : mjS) (x2 : Int32), mjTY u → u = (upd (upd σ.1 f_thrownCode 0) f_tapeSize 0, σ.2) → x2 = nI t → mjY mjPP (mjQQ Y) (d + 13) 173 11 [some (.ref 0), some (.int x1), some (.int x2), some (.int x1), none, none, none, none, none] [] u (fun r u => (∃ z, r = some (.int z)) ∧ GI u bud) := by
    intro u x2 tu eu e2
    have f : Fr [f_thrownCode, f_tapeSize] [] σ u := by rw [eu]; exact (Fr.i (by decide)).tr (Fr.i (by decide))
    have eTu : u.1 f_tapeSize = nI 0 := by rw [eu]; exact pk_us (f := upd σ.1 f_thrownCode 0) (k := f_tapeSize) (x := 0)
    have h1 := g1.fr f (by decide) (by decide)
    have h2 := g2.fr f (by decide) (by decide)
    have h3 : TB u ∧ u.1 f_replays = 0 ∧ u.1 f_inBlock = 0 ∧ 0 ≤ u.2.1 f_now0 ∧ BU u ∧ gG G := ⟨t1.fr f (by decide), by rw [f.1 _ (by decide)]; exact t2, by rw [f.1 _ (by decide)]; exact t3, by rw [f.2.1 _ (by decide)]; exact t4, t5.fr f (by decide), t6⟩
    have h4 : (¬ u.1 f_up = 0 ∧ HI u (strip ks) P) ∨ (u.1 f_up = 0 ∧ (ks = [] ∧ l = []) ∧ HD u P) := by
      rw [f.1 _ (by decide)]
      rcases g4 with ⟨a, b⟩ | ⟨a, b, c⟩
      · exact Or.inl ⟨a, b.fr f (by decide) (by decide)⟩
      · exact Or.inr ⟨a, b, c.fr f (by decide) (by decide)⟩
    have no : mjY mjPP (mjQQ Y) (d + 13) 173 24 [some (.ref 0), some (.int x1), some (.int x2), some (.int x1), none, none, none, none, none] [] u (fun r u => (∃ z, r = some (.int z)) ∧ GI u bud) := by
      refine mjZ_y rfl rfl 2 _ _ _ _ tu ?_
      refine And.intro rfl (And.intro (Or.inl rfl) ?_)
      exact ⟨⟨_, rfl⟩, ws, ks, l, qe, we, ce, I, G, P, 0, h1, h2, h3, ⟨eTu, by omega⟩, h4, by omega, by omega, by omega⟩
    refine mjZ_y rfl rfl 2 _ _ _ _ tu ?_
    refine And.intro (fun a => ?_) (fun a => ?_)
    · exact no
    refine mjZ_y rfl rfl 3 _ _ _ _ tu ?_
    refine And.intro (fun b => ?_) (fun b => ?_)
    · exact no
    refine mjZ_y rfl rfl 3 _ _ _ _ tu ?_
    refine (And.intro rfl (And.intro (fun q => ?_) (fun q => ?_)))
    · exact no
    have a : ¬ x1 < 0 := a
    have q : ¬ u.1 f_up = 0 := q
    obtain ⟨e1, e31⟩ := i32_nn a
    obtain ⟨c, ec⟩ : ∃ c, c = x1.toNatClampNeg := ⟨_, rfl⟩
    rw [← ec] at e1 e31
    have hc : c < 4 := Nat.lt_of_not_le (fun z => b (show Int32.ofInt 3 < x1 from by
      rw [e1]; exact Int32.not_le.mp (nI_ge (b := c) (a := 3) (by omega) (by omega))))
    have v1 : vp_in x1 4 := by rw [e1]; exact vp_in_nI hc (by decide)
    obtain ⟨i1, i2, -⟩ := (h2.1 c hc).1
    have eA := tpA_c hc I
    have hH : HI u (strip ks) P := by
      rcases h4 with ⟨-, b⟩ | ⟨b, -⟩
      · exact b
      · exact absurd b q
    refine mjZ_y rfl rfl 5 _ _ _ _ tu ?_
    refine (And.intro rfl (And.intro (Or.inr rfl) (And.intro v1 (And.intro (fun o => ?_) (fun o => ?_)))))
    · refine mjZ_y rfl rfl 7 _ _ _ _ tu ?_
      refine (And.intro rfl (And.intro rfl (And.intro v1 (And.intro (Nat.le_of_ble_eq_true rfl) (And.intro (Nat.le_of_ble_eq_true rfl) ?_)))))
      refine c_send_1 (d := d + 13) _ hc i2 x1 x2 x1 _ e1 (show u.2.2.1 r_inSize x1.toNatClampNeg = nI (I c) by rw [← ec]; exact i1) (I c) 0 u _ rfl (by omega) tu (fun v x5 tv fv => ?_)
      refine mjZ_y rfl rfl 2 _ _ _ _ tv ?_
      refine (And.intro (Nat.le_of_ble_eq_true rfl) ?_)
      refine c_send_2 (d := d + 13) _ i2 (by omega) x1 x2 x1 _ e2 (show u.2.2.1 r_inSize x1.toNatClampNeg = nI (I c) by rw [← ec]; exact i1) t 0 v _ rfl (by omega) tv (fun w x5 tw fw => ?_)
      refine mjZ_y rfl rfl 13 _ _ _ _ tw ?_
      refine (And.intro (Nat.le_of_ble_eq_true rfl) (And.intro rfl (And.intro (Or.inl rfl) (fun tw' => (And.intro (Nat.le_of_ble_eq_true rfl) (And.intro (Nat.le_of_ble_eq_true rfl) (And.intro (Nat.le_of_ble_eq_true rfl) ?_)))))))
      have go2 : ∀ (z : mjS) (x4 : Int32), mjTY z → z = (upd w.1 f_cur x1, w.2) → x4 = nI (I c + t) → mjY mjPP (mjQQ Y) (d + 13) 173 80 [some (.ref 0), some (.int x1), some (.int x2), some (.int x1), some (.int x4), some (.int (Int32.ofInt 0)), some (.int (Int32.ofInt 0)), some (.int (Int32.ofInt 1)), none] [] z (fun r u => (∃ z, r = some (.int z)) ∧ GI u bud) := by
        intro z x4 tz ez e4
        have fz : Fr [f_cur] [r_line0] u z := by
          have : Fr [f_cur] [] w z := by rw [ez]; exact Fr.i (by decide)
          exact ((fv.tr fw).up (by decide) (by decide)).tr (this.up (by decide) (by decide))
        have ecz : z.1 f_cur = nI c := by rw [ez, ← e1]; exact pk_us (f := w.1) (k := f_cur) (x := x1)
        obtain ⟨s1, s2, s3, s4, s5, s6⟩ := h3
        have eP : tp c I G = tpI c I + tpG G := rfl
        have hS : SI z c (bud + ((I c + t) - 0)) := ⟨ws, ks, l, qe, we, ce, I, G, P, h1.fr fz (by decide) (by decide), h2.fr fz (by decide) (by decide), ⟨s1.fr fz (by decide), by rw [fz.1 _ (by decide)]; exact s2, by rw [fz.1 _ (by decide)]; exact s3, by rw [fz.2.1 _ (by decide)]; exact s4, s5.fr fz (by decide), s6⟩, by omega, hH.fr fz (by decide) (by decide), by omega, by omega, by omega⟩
        have ezt : z.1 f_tapeSize = nI 0 := by rw [fz.1 _ (by decide)]; exact eTu
        have ezu : ¬ z.1 f_up = 0 := by rw [fz.1 _ (by decide)]; exact q
        refine c_send_loop (bud := bud) _ hc (s := I c + t) (by omega) x1 x2 x1 x4 e1 e4 (I c + t) 0 z _ _ _ _ (by omega) (Nat.zero_le _) rfl tz ecz hS (fun y p' y5 y6 y7 m8 tyy fy ey hp' e5' sy => ?_) (fun y tyy fy ey sy => ?_)
        · exact c_send_e hc (by omega) hp' x1 x2 x1 x4 y5 y6 y7 m8 e1 e4 e5' tyy (by rw [fy.1 _ (by decide)]; exact ezt) (by rw [ey]; exact ezu) sy
        · obtain ⟨ws2, qe2, we2, ce2, I2, G2, P2, k1, k2, k3, k4, k5, k6, k7⟩ := sy
          have eA2 := tpA_c hc I2
          have z2 := k7 c hc
          have eP2 : tp c I2 G2 = tpI c I2 + tpG G2 := rfl
          exact ⟨⟨_, rfl⟩, ws2, [], [], qe2, we2, ce2, I2, G2, P2, 0, k1, k2, k3, ⟨by rw [fy.1 _ (by decide)]; exact ezt, by omega⟩, Or.inr ⟨ey, ⟨rfl, rfl⟩, k5⟩, by omega, by omega, by omega⟩
      exact go2 _ _ tw' rfl (by rw [e2, show u.2.2.1 r_inSize x1.toNatClampNeg = nI (I c) by rw [← ec]; exact i1, nI_add])
    · exact no
  exact go _ _ ty'' rfl eT
end SENDW
