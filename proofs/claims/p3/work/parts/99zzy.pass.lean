/-! pass, total. -/
section PASS
variable {Y : Nat → MethodName × ByteArray} {d : Nat}
theorem now_add {n v : Int64} (hn : 0 ≤ n) (hv : 0 ≤ v) (h : v ≤ Int64.ofInt 4503599627370496 - n) : 0 ≤ n + v := by
  have a1 := Int64.le_iff_toInt_le.mp hn
  have a2 := Int64.le_iff_toInt_le.mp hv
  have a3 := Int64.le_iff_toInt_le.mp h
  have z0 : (0 : Int64).toInt = 0 := rfl
  have z1 : (Int64.ofInt 4503599627370496).toInt = 4503599627370496 := rfl
  have b1 := Int64.toInt_lt n
  have b2 := Int64.le_toInt n
  rw [z0] at a1 a2
  rw [Int64.toInt_sub, z1, Int.bmod_eq_of_le (by omega) (by omega)] at a3
  rw [Int64.le_iff_toInt_le, z0, Int64.toInt_add, Int.bmod_eq_of_le (by omega) (by omega)]
  omega
set_option maxRecDepth 100000 in
theorem g_pass {σ : mjS} {bud : Nat} (h : GI σ bud) (ty : mjTY σ) (x : Int64) : mjY mjPP (mjQQ Y) (d + 14) 181 0 (mjL0 3 [.ref 0, .long x]) [] σ (gK bud) := by
  refine mjZ_y rfl rfl 3 _ _ _ _ ty ?_
  refine (And.intro rfl (And.intro (Or.inl rfl) (fun ty' => ?_)))
  have go : ∀ u : mjS, mjTY u → u = (upd σ.1 f_thrownCode 0, σ.2) → mjY mjPP (mjQQ Y) (d + 14) 181 3 [some (.ref 0), some (.long x), none] [] u (gK bud) := by
    intro u tu eu
    have hu : GI u bud := h.th (by rw [eu]; exact Fr.i (by decide))
    have no : mjY mjPP (mjQQ Y) (d + 14) 181 17 [some (.ref 0), some (.long x), none] [] u (gK bud) := by
      refine mjZ_y rfl rfl 2 _ _ _ _ tu ?_
      refine And.intro rfl (And.intro (Or.inl rfl) ?_)
      exact ⟨⟨_, rfl⟩, hu⟩
    refine mjZ_y rfl rfl 4 _ _ _ _ tu ?_
    refine And.intro (fun a => ?_) (fun a => ?_)
    · exact no
    have a : 0 ≤ x := Int64.not_lt.mp (fun z => a ((lg_cmp_lt _ _).mpr z))
    refine mjZ_y rfl rfl 3 _ _ _ _ tu ?_
    refine (And.intro rfl (And.intro (fun b => ?_) (fun b => ?_)))
    · exact no
    have b : ¬ u.1 f_up = 0 := b
    refine mjZ_y rfl rfl 7 _ _ _ _ tu ?_
    refine (And.intro rfl (And.intro (fun c => ?_) (fun c => ?_)))
    · have c : x ≤ Int64.ofInt 4503599627370496 - u.2.1 f_now0 := (lg_cmp_le _ _).mp c
      refine mjZ_y rfl rfl 6 _ _ _ _ tu ?_
      refine (And.intro rfl (And.intro rfl (And.intro rfl (fun tu' => ?_))))
      have go2 : ∀ v : mjS, mjTY v → Fr [f_now0] [] u v → v.2.1 f_now0 = u.2.1 f_now0 + x → mjY mjPP (mjQQ Y) (d + 14) 181 25 [some (.ref 0), some (.long x), none] [] v (gK bud) := by
        intro v tv fv ev
        have hv : GI v bud := by
          obtain ⟨ws, ks, l, qe, we, ce, I, G, P, t, g1, g2, ⟨t1, t2, t3, t4, t5, t6⟩, ⟨eT, g3⟩, g4, g5⟩ := hu
          refine ⟨ws, ks, l, qe, we, ce, I, G, P, t, g1.fr fv (by decide) (by decide), g2.fr fv (by decide) (by decide), ⟨t1.fr fv (by decide), by rw [fv.1 _ (by decide)]; exact t2, by rw [fv.1 _ (by decide)]; exact t3, by rw [ev]; exact now_add t4 a c, t5.fr fv (by decide), t6⟩, ⟨by rw [fv.1 _ (by decide)]; exact eT, g3⟩, ?_, g5⟩
          rw [fv.1 f_up (by decide)]
          rcases g4 with ⟨a, b⟩ | ⟨a, b, c⟩
          · exact Or.inl ⟨a, b.fr fv (by decide) (by decide)⟩
          · exact Or.inr ⟨a, b, c.fr fv (by decide) (by decide)⟩
        refine mjZ_y rfl rfl 2 _ _ _ _ tv ?_
        refine (And.intro (Nat.le_of_ble_eq_true rfl) (And.intro rfl (And.intro (Nat.le_of_ble_eq_true rfl) (And.intro (Nat.le_of_ble_eq_true rfl) (mjY_mono tv (fun q_ w tw h_ => ?_) (g_expire hv tv (by rw [fv.1 _ (by decide)]; exact b)))))))
        obtain ⟨⟨z, rfl⟩, kw⟩ := h_
        intro _
        refine mjZ_y rfl rfl 1 _ _ _ _ tw ?_
        refine And.intro rfl (And.intro (Or.inl rfl) ?_)
        exact ⟨⟨_, rfl⟩, kw⟩
      exact go2 _ tu' (Fr.l (by decide)) (pk_uLs (f := u.2.1) (k := f_now0) (x := u.2.1 f_now0 + x))
    · exact no
  exact go _ ty' rfl
set_option maxRecDepth 100000 in
theorem c_total_loop (K : mjK) {σ : mjS} (ty : mjTY σ) {ws : Req} {ks : List KR} {l : List Int32} (hW : Wd σ ws ks l) (x1 : Int32) (hK : ∀ z, K (some (.int z)) σ) : ∀ (j q : Nat) (x2 x3 : Int32), x3 = nI q → q + j = ks.length → mjY mjPP (mjQQ Y) d 196 23 [some (.ref 0), some (.int x1), some (.int x2), some (.int x3)] [] σ K := by
  obtain ⟨hs, fk, fe, k⟩ := hW.1
  have hl := ks_len k
  intro j
  induction j with
  | zero =>
    intro q x2 x3 e3 hq
    refine mjZ_y rfl rfl 4 _ _ _ _ ty ?_
    refine (And.intro rfl (And.intro (fun c => ?_) (fun c => ?_)))
    · refine mjZ_y rfl rfl 2 _ _ _ _ ty ?_
      refine And.intro rfl (And.intro (Or.inl rfl) ?_)
      exact hK _
    · exact absurd (show σ.1 f_keys ≤ x3 by rw [k.2.2.1, e3]; exact nI_le (by omega) (by omega)) c
  | succ j ih =>
    intro q x2 x3 e3 hq
    obtain ⟨x, hx⟩ : ∃ x, ks[q]? = some x := ⟨_, List.getElem?_eq_getElem (by omega)⟩
    have eo : σ.2.2.1 r_order x3.toNatClampNeg = nI x.1 := by rw [e3, nI_clamp (by omega)]; exact k.2.2.2.1 q x hx
    have o1 := (k.2.2.2.2.1 x (List.mem_of_getElem? hx)).1
    refine mjZ_y rfl rfl 4 _ _ _ _ ty ?_
    refine (And.intro rfl (And.intro (fun c => ?_) (fun c => ?_)))
    · refine mjZ_y rfl rfl 2 _ _ _ _ ty ?_
      refine And.intro rfl (And.intro (Or.inl rfl) ?_)
      exact hK _
    refine mjZ_y rfl rfl 8 _ _ _ _ ty ?_
    refine (And.intro rfl (And.intro rfl (And.intro rfl (And.intro (show vp_in x3 4700 by rw [e3]; exact vp_in_nI (by omega) (by decide)) (And.intro (Or.inr rfl) (And.intro (show vp_in (σ.2.2.1 r_order x3.toNatClampNeg) 4700 by rw [eo]; exact vp_in_nI o1 (by decide)) (And.intro (fun r => ?_) (fun r => ?_))))))))
    · refine mjZ_y rfl rfl 2 _ _ _ _ ty ?_
      exact ih (q + 1) _ _ (by rw [e3]; exact nI_1 q) (by omega)
    · refine mjZ_y rfl rfl 3 _ _ _ _ ty ?_
      exact ih (q + 1) _ _ (by rw [e3]; exact nI_1 q) (by omega)
set_option maxRecDepth 100000 in
theorem g_total {σ : mjS} {bud : Nat} (h : GI σ bud) (ty : mjTY σ) (x1 : Int32) : mjY mjPP (mjQQ Y) (d + 1) 196 0 (mjL0 4 [.ref 0, .int x1]) [] σ (gK bud) := by
  refine mjZ_y rfl rfl 3 _ _ _ _ ty ?_
  refine (And.intro rfl (And.intro (Or.inl rfl) (fun ty' => ?_)))
  have go : ∀ u : mjS, mjTY u → u = (upd σ.1 f_thrownCode 0, σ.2) → mjY mjPP (mjQQ Y) (d + 1) 196 3 [some (.ref 0), some (.int x1), none, none] [] u (gK bud) := by
    intro u tu eu
    have hu : GI u bud := h.th (by rw [eu]; exact Fr.i (by decide))
    obtain ⟨ws, ks, l, hW⟩ : ∃ ws ks l, Wd u ws ks l := by
      obtain ⟨ws, ks, l, -, -, -, -, -, -, -, g1, -⟩ := hu
      exact ⟨ws, ks, l, g1⟩
    obtain ⟨hs, fk, fe, k⟩ := hW.1
    refine mjZ_y rfl rfl 2 _ _ _ _ tu ?_
    refine And.intro (fun a => ?_) (fun a => ?_)
    · refine mjZ_y rfl rfl 3 _ _ _ _ tu ?_
      refine And.intro (fun b => ?_) (fun b => ?_)
      · refine mjZ_y rfl rfl 3 _ _ _ _ tu ?_
        refine And.intro (fun c => ?_) (fun c => ?_)
        · refine mjZ_y rfl rfl 4 _ _ _ _ tu ?_
          refine (And.intro (Nat.le_of_ble_eq_true rfl) (And.intro (Nat.le_of_ble_eq_true rfl) ?_))
          exact c_total_loop _ tu hW x1 (fun z => ⟨⟨_, rfl⟩, hu⟩) ks.length 0 _ _ rfl (by omega)
        · refine mjZ_y rfl rfl 2 _ _ _ _ tu ?_
          refine And.intro rfl (And.intro (Or.inl rfl) ?_)
          exact ⟨⟨_, rfl⟩, hu⟩
      · refine mjZ_y rfl rfl 2 _ _ _ _ tu ?_
        refine (And.intro (Nat.le_of_ble_eq_true rfl) (And.intro rfl (And.intro (Nat.le_of_ble_eq_true rfl) (And.intro (Nat.le_of_ble_eq_true rfl) (mjY_mono tu (fun q_ v tv h_ => ?_) (c_memory k tu))))))
        obtain ⟨rfl, rfl⟩ := h_
        intro _
        refine mjZ_y rfl rfl 1 _ _ _ _ tv ?_
        refine And.intro rfl (And.intro (Or.inl rfl) ?_)
        exact ⟨⟨_, rfl⟩, hu⟩
    · refine mjZ_y rfl rfl 3 _ _ _ _ tu ?_
      refine (And.intro rfl (And.intro rfl (And.intro (Or.inl rfl) ?_)))
      exact ⟨⟨_, rfl⟩, hu⟩
  exact go _ ty' rfl
end PASS
