/-! The reference's calls, with what becomes of the tape's size. -/
def enB (x : Int32) (n : Nat) : Int32 := if x < 0 ∨ nI n < x then 0 else 1
def enN (x : Int32) (n : Nat) : Nat := if x < 0 ∨ nI n < x then n else x.toNatClampNeg
section SENDW3
variable {Y : Nat → MethodName × ByteArray} {d : Nat}
set_option maxRecDepth 100000 in
theorem c_send3 {σ : mjS} {bud : Nat} (h : GI σ bud) (ty : mjTY σ) (x1 : Int32) : mjY mjPP (mjQQ Y) (d + 13) 173 0 (mjL0 9 [.ref 0, .int x1]) [] σ (fun r u => ((∃ z, r = some (.int z)) ∧ GI u bud) ∧ u.1 113 = 0) := by
  obtain ⟨ws, ks, l, qe, we, ce, I, G, P, t, g1, g2, ⟨t1, t2, t3, t4, t5, t6⟩, ⟨eT, g3⟩, g4, g5⟩ := h
  have hP : P ≤ 10240 := by
    rcases g4 with ⟨-, E, -, -, b, -⟩ | ⟨-, -, E, A, b, ns, n, B, -, -, b2, -⟩
    · have := b.2.2.1; omega
    · have := b2.2.2.1; omega
  refine mjZ_y rfl rfl 11 _ _ _ _ ty ?_
  refine (And.intro rfl (And.intro (Or.inl rfl) (fun ty' => (And.intro rfl (And.intro (Nat.le_of_ble_eq_true rfl) (And.intro rfl (And.intro (Or.inl rfl) (fun ty'' => (And.intro (Nat.le_of_ble_eq_true rfl) ?_)))))))))
  have go : ∀ (u : mjS) (x2 : Int32), mjTY u → u = (upd (upd σ.1 f_thrownCode 0) f_tapeSize 0, σ.2) → x2 = nI t → mjY mjPP (mjQQ Y) (d + 13) 173 11 [some (.ref 0), some (.int x1), some (.int x2), some (.int x1), none, none, none, none, none] [] u (fun r u => (∃ z, r = some (.int z)) ∧ GI u bud) := by
    intro u x2 tu eu e2
    have f : Fr [f_thrownCode, f_tapeSize] [] σ u := by rw [eu]; exact (Fr.i (by decide)).tr (Fr.i (by decide))
    have eTu : u.1 f_tapeSize = nI 0 := by rw [eu]; exact pk_us (f := upd σ.1 f_thrownCode 0) (k := f_tapeSize) (x := 0)
    have h1 := g1.fr f (by decide) (by decide)
    have h2 := g2.fr f (by decide) (by decide)
    have h3 : TB u ∧ u.1 f_replays = 0 ∧ u.1 f_inBlock = 0 ∧ 0 ≤ u.2.1 f_now0 ∧ BU u ∧ gG G := ⟨t1.fr f (by decide), by rw [f.1 _ (by decide)]; exact t2, by rw [f.1 _ (by decide)]; exact t3, by rw [f.2.1 _ (by decide)]; exact t4, t5.fr f (by decide), t6⟩
    have h4 : (¬ u.1 f_up = 0 ∧ HI u (strip ks) P) ∨ (u.1 f_up = 0 ∧ (ks = [] ∧ l = []) ∧ HD u P) := by
      rw [f.1 _ (by decide)]
      rcases g4 with ⟨a, b⟩ | ⟨a, b, c⟩
      · exact Or.inl ⟨a, b.fr f (by decide) (by decide)⟩
      · exact Or.inr ⟨a, b, c.fr f (by decide) (by decide)⟩
    have no : mjY mjPP (mjQQ Y) (d + 13) 173 24 [some (.ref 0), some (.int x1), some (.int x2), some (.int x1), none, none, none, none, none] [] u (fun r u => (∃ z, r = some (.int z)) ∧ GI u bud) := by
      refine mjZ_y rfl rfl 2 _ _ _ _ tu ?_
      refine And.intro rfl (And.intro (Or.inl rfl) ?_)
      exact ⟨⟨_, rfl⟩, ws, ks, l, qe, we, ce, I, G, P, 0, h1, h2, h3, ⟨eTu, by omega⟩, h4, by omega, by omega, by omega⟩
    refine mjZ_y rfl rfl 2 _ _ _ _ tu ?_
    refine And.intro (fun a => ?_) (fun a => ?_)
    · exact no
    refine mjZ_y rfl rfl 3 _ _ _ _ tu ?_
    refine And.intro (fun b => ?_) (fun b => ?_)
    · exact no
    refine mjZ_y rfl rfl 3 _ _ _ _ tu ?_
    refine (And.intro rfl (And.intro (fun q => ?_) (fun q => ?_)))
    · exact no
    have a : ¬ x1 < 0 := a
    have q : ¬ u.1 f_up = 0 := q
    obtain ⟨e1, e31⟩ := i32_nn a
    obtain ⟨c, ec⟩ : ∃ c, c = x1.toNatClampNeg := ⟨_, rfl⟩
    rw [← ec] at e1 e31
    have hc : c < 4 := Nat.lt_of_not_le (fun z => b (show Int32.ofInt 3 < x1 from by
      rw [e1]; exact Int32.not_le.mp (nI_ge (b := c) (a := 3) (by omega) (by omega))))
    have v1 : vp_in x1 4 := by rw [e1]; exact vp_in_nI hc (by decide)
    obtain ⟨i1, i2, -⟩ := (h2.1 c hc).1
    have eA := tpA_c hc I
    have hH : HI u (strip ks) P := by
      rcases h4 with ⟨-, b⟩ | ⟨b, -⟩
      · exact b
      · exact absurd b q
    refine mjZ_y rfl rfl 5 _ _ _ _ tu ?_
    refine (And.intro rfl (And.intro (Or.inr rfl) (And.intro v1 (And.intro (fun o => ?_) (fun o => ?_)))))
    · refine mjZ_y rfl rfl 7 _ _ _ _ tu ?_
      refine (And.intro rfl (And.intro rfl (And.intro v1 (And.intro (Nat.le_of_ble_eq_true rfl) (And.intro (Nat.le_of_ble_eq_true rfl) ?_)))))
      refine c_send_1 (d := d + 13) _ hc i2 x1 x2 x1 _ e1 (show u.2.2.1 r_inSize x1.toNatClampNeg = nI (I c) by rw [← ec]; exact i1) (I c) 0 u _ rfl (by omega) tu (fun v x5 tv fv => ?_)
      refine mjZ_y rfl rfl 2 _ _ _ _ tv ?_
      refine (And.intro (Nat.le_of_ble_eq_true rfl) ?_)
      refine c_send_2 (d := d + 13) _ i2 (by omega) x1 x2 x1 _ e2 (show u.2.2.1 r_inSize x1.toNatClampNeg = nI (I c) by rw [← ec]; exact i1) t 0 v _ rfl (by omega) tv (fun w x5 tw fw => ?_)
      refine mjZ_y rfl rfl 13 _ _ _ _ tw ?_
      refine (And.intro (Nat.le_of_ble_eq_true rfl) (And.intro rfl (And.intro (Or.inl rfl) (fun tw' => (And.intro (Nat.le_of_ble_eq_true rfl) (And.intro (Nat.le_of_ble_eq_true rfl) (And.intro (Nat.le_of_ble_eq_true rfl) ?_)))))))
      have go2 : ∀ (z : mjS) (x4 : Int32), mjTY z → z = (upd w.1 f_cur x1, w.2) → x4 = nI (I c + t) → mjY mjPP (mjQQ Y) (d + 13) 173 80 [some (.ref 0), some (.int x1), some (.int x2), some (.int x1), some (.int x4), some (.int (Int32.ofInt 0)), some (.int (Int32.ofInt 0)), some (.int (Int32.ofInt 1)), none] [] z (fun r u => (∃ z, r = some (.int z)) ∧ GI u bud) := by
        intro z x4 tz ez e4
        have fz : Fr [f_cur] [r_line0] u z := by
          have : Fr [f_cur] [] w z := by rw [ez]; exact Fr.i (by decide)
          exact ((fv.tr fw).up (by decide) (by decide)).tr (this.up (by decide) (by decide))
        have ecz : z.1 f_cur = nI c := by rw [ez, ← e1]; exact pk_us (f := w.1) (k := f_cur) (x := x1)
        obtain ⟨s1, s2, s3, s4, s5, s6⟩ := h3
        have eP : tp c I G = tpI c I + tpG G := rfl
        have hS : SI z c (bud + ((I c + t) - 0)) := ⟨ws, ks, l, qe, we, ce, I, G, P, h1.fr fz (by decide) (by decide), h2.fr fz (by decide) (by decide), ⟨s1.fr fz (by decide), by rw [fz.1 _ (by decide)]; exact s2, by rw [fz.1 _ (by decide)]; exact s3, by rw [fz.2.1 _ (by decide)]; exact s4, s5.fr fz (by decide), s6⟩, by omega, hH.fr fz (by decide) (by decide), by omega, by omega, by omega⟩
        have ezt : z.1 f_tapeSize = nI 0 := by rw [fz.1 _ (by decide)]; exact eTu
        have ezu : ¬ z.1 f_up = 0 := by rw [fz.1 _ (by decide)]; exact q
        refine c_send_loop (bud := bud) _ hc (s := I c + t) (by omega) x1 x2 x1 x4 e1 e4 (I c + t) 0 z _ _ _ _ (by omega) (Nat.zero_le _) rfl tz ecz hS (fun y p' y5 y6 y7 m8 tyy fy ey hp' e5' sy => ?_) (fun y tyy fy ey sy => ?_)
        · exact c_send_e hc (by omega) hp' x1 x2 x1 x4 y5 y6 y7 m8 e1 e4 e5' tyy (by rw [fy.1 _ (by decide)]; exact ezt) (by rw [ey]; exact ezu) sy
        · obtain ⟨ws2, qe2, we2, ce2, I2, G2, P2, k1, k2, k3, k4, k5, k6, k7⟩ := sy
          have eA2 := tpA_c hc I2
          have z2 := k7 c hc
          have eP2 : tp c I2 G2 = tpI c I2 + tpG G2 := rfl
          exact ⟨⟨_, rfl⟩, ws2, [], [], qe2, we2, ce2, I2, G2, P2, 0, k1, k2, k3, ⟨by rw [fy.1 _ (by decide)]; exact ezt, by omega⟩, Or.inr ⟨ey, ⟨rfl, rfl⟩, k5⟩, by omega, by omega, by omega⟩
      exact go2 _ _ tw' rfl (by rw [e2, show u.2.2.1 r_inSize x1.toNatClampNeg = nI (I c) by rw [← ec]; exact i1, nI_add])
    · exact no
  exact mjY_mono ty'' (fun r u _ k => ⟨k.1, k.2.trans rfl⟩) (mjY_ts ts_ok ty'' rfl (go _ _ ty'' rfl eT))
theorem g_feed3 {σ : mjS} {bud t : Nat} (h : GI σ (bud + 20)) (eT : σ.1 113 = nI t) (ht : t ≤ 10240) (ty : mjTY σ) (a b c e f : Int32) : mjY mjPP (mjQQ Y) d 171 0 (mjL0 8 [.ref 0, .int a, .int b, .int c, .int e, .int f]) [] σ (fun r u => (r = some (.int 1) ∧ GI u bud) ∧ u.1 113 = nI (t + 20)) := by
  refine mjY_mono ty (fun r u _ k => ?_) (c_feed ty t (by omega) eT a b c e f)
  obtain ⟨fu, ⟨-, er, et⟩ | ⟨z, -⟩⟩ := k
  · refine ⟨⟨er, h.mv (fu.up (by decide) (by decide)) (fun b => b.fr fu (by decide)) (fun t2 e2 h2 => ⟨t + 20, et, ?_⟩)⟩, et⟩
    have := nI_inj (a := t) (b := t2) (by omega) (by omega) (eT.symm.trans e2)
    omega
  · exact absurd (show t + 20 ≤ 65540 by omega) z
theorem g_end3 {σ : mjS} {bud t : Nat} (h : GI σ bud) (eT : σ.1 113 = nI t) (ht : t ≤ 10240) (ty : mjTY σ) (n : Int32) : mjY mjPP (mjQQ Y) d 172 0 (mjL0 2 [.ref 0, .int n]) [] σ (fun r u => (r = some (.int (enB n t)) ∧ GI u bud) ∧ u.1 113 = nI (enN n t)) := by
  refine mjY_mono ty (fun r u _ k => ?_) (c_end ty t (by omega) eT n)
  have t1 : (nI t).toInt = (t : Int) := nI_toInt (by omega)
  have t0 : (0 : Int32).toInt = 0 := by decide
  obtain ⟨fu, ⟨k, hk, en, er, et⟩ | ⟨hno, er, et⟩⟩ := k
  · have hk1 : (nI k).toInt = (k : Int) := nI_toInt (by omega)
    have hn : ¬ (n < 0 ∨ nI t < n) := by
      subst en
      rintro (y | y)
      · have := Int32.lt_iff_toInt_lt.mp y; omega
      · have := Int32.lt_iff_toInt_lt.mp y; omega
    have e1 : enB n t = 1 := if_neg hn
    have e2 : enN n t = k := by
      unfold enN; rw [if_neg hn, en]
      show (nI k).toInt.toNat = k
      rw [hk1]; rfl
    refine ⟨⟨by rw [e1]; exact er, h.mv (fu.up (by decide) (by decide)) (fun b => b.fr fu (by decide)) (fun t2 e2 h2 => ⟨k, et, ?_⟩)⟩, by rw [e2]; exact et⟩
    have := nI_inj (a := t) (b := t2) (by omega) (by omega) (eT.symm.trans e2)
    omega
  · have hn : n < 0 ∨ nI t < n := by
      apply Decidable.byContradiction
      intro y
      have y1 : ¬ n < 0 := fun z => y (Or.inl z)
      have y2 : ¬ nI t < n := fun z => y (Or.inr z)
      have z1 := Int32.le_iff_toInt_le.mp (Int32.not_lt.mp y1)
      have z2 := Int32.le_iff_toInt_le.mp (Int32.not_lt.mp y2)
      refine hno n.toInt.toNat (by omega) (Int32.toInt_inj.mp ?_)
      rw [nI_toInt (by omega)]
      omega
    have e1 : enB n t = 0 := if_pos hn
    have e2 : enN n t = t := if_pos hn
    refine ⟨⟨by rw [e1]; exact er, h.mv (fu.up (by decide) (by decide)) (fun b => b.fr fu (by decide)) (fun t2 e2 h2 => ⟨t, et, ?_⟩)⟩, by rw [e2]; exact et⟩
    have := nI_inj (a := t) (b := t2) (by omega) (by omega) (eT.symm.trans e2)
    omega
end SENDW3
section USE3
variable {l : Launch} {dC : Nat → ClassId} {dI : Nat → Nat → Nat} {dA : Nat → ClassId} {ad : Nat → Nat} {σ : mjS} {bud t : Nat}
theorem w_feed (h : GI σ (bud + 20)) (eT : σ.1 113 = nI t) (ht : t ≤ 10240) (ty : mjTY σ) (a b c e f : Int32) : mjMet l dC dI dA ad (mjQQ mjYN 171) 14 [.ref 0, .int a, .int b, .int c, .int e, .int f] σ (fun r u => (r = some (.int 1) ∧ GI u bud) ∧ u.1 113 = nI (t + 20)) := mj_use (Nat.le_of_ble_eq_true rfl) ty (g_feed3 h eT ht ty a b c e f)
theorem w_end (h : GI σ bud) (eT : σ.1 113 = nI t) (ht : t ≤ 10240) (ty : mjTY σ) (n : Int32) : mjMet l dC dI dA ad (mjQQ mjYN 172) 14 [.ref 0, .int n] σ (fun r u => (r = some (.int (enB n t)) ∧ GI u bud) ∧ u.1 113 = nI (enN n t)) := mj_use (Nat.le_of_ble_eq_true rfl) ty (g_end3 h eT ht ty n)
theorem w_send (h : GI σ bud) (ty : mjTY σ) (n : Int32) : mjMet l dC dI dA ad (mjQQ mjYN 173) 14 [.ref 0, .int n] σ (fun r u => gK bud r u ∧ u.1 113 = 0) := mj_use (Nat.le_of_ble_eq_true rfl) ty (c_send3 (d := 1) h ty n)
theorem w_open (h : GI σ bud) (ty : mjTY σ) (n : Int32) : mjMet l dC dI dA ad (mjQQ mjYN 175) 14 [.ref 0, .int n] σ (fun r u => ((gK bud)) r u ∧ u.1 113 = σ.1 113) := mj_use (Nat.le_of_ble_eq_true rfl) ty (mjY_ts ts_ok ty rfl (g_open (d := 12) h ty n))
theorem w_isOpen (h : GI σ bud) (ty : mjTY σ) (n : Int32) : mjMet l dC dI dA ad (mjQQ mjYN 176) 14 [.ref 0, .int n] σ (fun r u => ((gK bud)) r u ∧ u.1 113 = σ.1 113) := mj_use (Nat.le_of_ble_eq_true rfl) ty (mjY_ts ts_ok ty rfl (g_isOpen (d := 13) h ty n))
theorem w_out (h : GI σ bud) (ty : mjTY σ) (n : Int32) : mjMet l dC dI dA ad (mjQQ mjYN 177) 14 [.ref 0, .int n] σ (fun r u => ((gK bud)) r u ∧ u.1 113 = σ.1 113) := mj_use (Nat.le_of_ble_eq_true rfl) ty (mjY_ts ts_ok ty rfl (g_out (d := 13) h ty n))
theorem w_outAt (h : GI σ bud) (ty : mjTY σ) (n i : Int32) : mjMet l dC dI dA ad (mjQQ mjYN 178) 14 [.ref 0, .int n, .int i] σ (fun r u => ((gK bud)) r u ∧ u.1 113 = σ.1 113) := mj_use (Nat.le_of_ble_eq_true rfl) ty (mjY_ts ts_ok ty rfl (g_outAt (d := 13) h ty n i))
theorem w_take (h : GI σ bud) (ty : mjTY σ) (n i : Int32) : mjMet l dC dI dA ad (mjQQ mjYN 179) 14 [.ref 0, .int n, .int i] σ (fun r u => ((gK bud)) r u ∧ u.1 113 = σ.1 113) := mj_use (Nat.le_of_ble_eq_true rfl) ty (mjY_ts ts_ok ty rfl (g_take (d := 13) h ty n i))
theorem w_pass (h : GI σ bud) (ty : mjTY σ) (x : Int64) : mjMet l dC dI dA ad (mjQQ mjYN 181) 14 [.ref 0, .long x] σ (fun r u => ((gK bud)) r u ∧ u.1 113 = σ.1 113) := mj_use (Nat.le_of_ble_eq_true rfl) ty (mjY_ts ts_ok ty rfl (g_pass (d := 0) h ty x))
theorem w_now (h : GI σ bud) (ty : mjTY σ) : mjMet l dC dI dA ad (mjQQ mjYN 182) 14 [.ref 0] σ (fun r u => (fun r u => (∃ z, r = some (.long z)) ∧ GI u bud) r u ∧ u.1 113 = σ.1 113) := mj_use (Nat.le_of_ble_eq_true rfl) ty (mjY_ts ts_ok ty rfl (g_now h ty))
theorem w_fuse (h : GI σ bud) (ty : mjTY σ) (b : Int32) : mjMet l dC dI dA ad (mjQQ mjYN 183) 14 [.ref 0, .int b] σ (fun r u => (fun r u => r = none ∧ GI u bud) r u ∧ u.1 113 = σ.1 113) := mj_use (Nat.le_of_ble_eq_true rfl) ty (mjY_ts ts_ok ty rfl (g_fuse h ty b))
theorem w_crash (h : GI σ bud) (ty : mjTY σ) : mjMet l dC dI dA ad (mjQQ mjYN 184) 14 [.ref 0] σ (fun r u => ((gK bud)) r u ∧ u.1 113 = σ.1 113) := mj_use (Nat.le_of_ble_eq_true rfl) ty (mjY_ts ts_ok ty rfl (c_crash (d := 1) h ty))
theorem w_restart (h : GI σ bud) (ty : mjTY σ) : mjMet l dC dI dA ad (mjQQ mjYN 189) 14 [.ref 0] σ (fun r u => ((gK bud)) r u ∧ u.1 113 = σ.1 113) := mj_use (Nat.le_of_ble_eq_true rfl) ty (mjY_ts ts_ok ty rfl (g_restart (d := 0) h ty))
theorem w_rewrite (h : GI σ bud) (ty : mjTY σ) : mjMet l dC dI dA ad (mjQQ mjYN 191) 14 [.ref 0] σ (fun r u => ((gK bud)) r u ∧ u.1 113 = σ.1 113) := mj_use (Nat.le_of_ble_eq_true rfl) ty (mjY_ts ts_ok ty rfl (g_rewrite (d := 1) h ty))
theorem w_log (h : GI σ bud) (ty : mjTY σ) : mjMet l dC dI dA ad (mjQQ mjYN 192) 14 [.ref 0] σ (fun r u => ((gK bud)) r u ∧ u.1 113 = σ.1 113) := mj_use (Nat.le_of_ble_eq_true rfl) ty (mjY_ts ts_ok ty rfl (g_log h ty))
theorem w_logAt (h : GI σ bud) (ty : mjTY σ) (i : Int32) : mjMet l dC dI dA ad (mjQQ mjYN 193) 14 [.ref 0, .int i] σ (fun r u => ((gK bud)) r u ∧ u.1 113 = σ.1 113) := mj_use (Nat.le_of_ble_eq_true rfl) ty (mjY_ts ts_ok ty rfl (g_logAt h ty i))
theorem w_tear (h : GI σ bud) (ty : mjTY σ) (i : Int32) : mjMet l dC dI dA ad (mjQQ mjYN 194) 14 [.ref 0, .int i] σ (fun r u => ((gK bud)) r u ∧ u.1 113 = σ.1 113) := mj_use (Nat.le_of_ble_eq_true rfl) ty (mjY_ts ts_ok ty rfl (g_tear h ty i))
theorem w_isUp (h : GI σ bud) (ty : mjTY σ) : mjMet l dC dI dA ad (mjQQ mjYN 195) 14 [.ref 0] σ (fun r u => ((gK bud)) r u ∧ u.1 113 = σ.1 113) := mj_use (Nat.le_of_ble_eq_true rfl) ty (mjY_ts ts_ok ty rfl (g_isUp h ty))
theorem w_total (h : GI σ bud) (ty : mjTY σ) (i : Int32) : mjMet l dC dI dA ad (mjQQ mjYN 196) 14 [.ref 0, .int i] σ (fun r u => ((gK bud)) r u ∧ u.1 113 = σ.1 113) := mj_use (Nat.le_of_ble_eq_true rfl) ty (mjY_ts ts_ok ty rfl (g_total (d := 13) h ty i))
end USE3
