/-! Channels; PUBLISH. -/
section CHANS
variable {Y : Nat → MethodName × ByteArray} {d : Nat}
theorem nI_mul32 (c i : Nat) : (Int8.ofInt 32).toInt32 * nI c + nI i = nI (32 * c + i) := by
  rw [show (Int8.ofInt 32).toInt32 = nI 32 from by decide, pk_mul, nI_add]
set_option maxRecDepth 100000 in
theorem c_channel_loop {σ : mjS} {ws : List (List Int32)} (ar : AR σ ws) (ty : mjTY σ) {c N ce a : Nat} {w : List Int32} (hc : c < 4) (hN : N ≤ 32) (hce : ce ≤ 50000) (eN : σ.2.2.1 r_channels c = nI N) (hall : ∀ i, i < N → ∃ a m : Nat, σ.2.2.1 r_channelAt (32 * c + i) = nI a ∧ σ.2.2.1 r_channelLen (32 * c + i) = nI m ∧ a + m ≤ ce) (hw : ws[a]? = some w) {x1 x2 : Int32} (e1 : x1 = nI c) (e2 : x2 = nI a) : ∀ (j i : Nat) (x3 : Int32), x3 = nI i → i + j = N →
    mjY mjPP (mjQQ Y) (d + 1) 142 2 [some (.ref 0), some (.int x1), some (.int x2), some (.int x3)] [] σ (fun r u => u = σ ∧ ∃ z, r = some (.int z) ∧ (z = -1 ∨ ∃ i : Nat, i < N ∧ z = nI i)) := by
  have v1 : vp_in x1 4 := by rw [e1]; exact vp_in_nI hc (by decide)
  have c1 : x1.toNatClampNeg = c := by rw [e1]; exact nI_clamp (by omega)
  have ha := (List.getElem?_eq_some_iff.mp hw).1
  have h1024 := ar.2.1
  have v2 : vp_in x2 1100 := by rw [e2]; exact vp_in_nI (by omega) (by decide)
  have c2 : x2.toNatClampNeg = a := by rw [e2]; exact nI_clamp (by omega)
  obtain ⟨b0, g1, g2, g3, g4⟩ := ar.2.2 a w hw
  intro j
  induction j with
  | zero =>
    intro i x3 e3 hi
    refine mjZ_y rfl rfl 6 _ _ _ _ ty ?_
    refine (And.intro rfl (And.intro rfl (And.intro v1 (And.intro (fun q => ?_) (fun q => ?_)))))
    · refine mjZ_y rfl rfl 2 _ _ _ _ ty ?_
      refine And.intro rfl (And.intro (Or.inl rfl) ?_)
      exact ⟨rfl, _, rfl, Or.inl rfl⟩
    · exact absurd (show σ.2.2.1 r_channels x1.toNatClampNeg ≤ x3 by rw [c1, eN, e3]; exact nI_le (by omega) (by omega)) q
  | succ j ih =>
    intro i x3 e3 hi
    refine mjZ_y rfl rfl 6 _ _ _ _ ty ?_
    refine (And.intro rfl (And.intro rfl (And.intro v1 (And.intro (fun q => ?_) (fun q => ?_)))))
    · exact absurd (show σ.2.2.1 r_channels x1.toNatClampNeg ≤ x3 from q) (by rw [c1, eN, e3]; exact nI_ge (by omega) (by omega))
    obtain ⟨b, m, eA, eL, hbm⟩ := hall i (by omega)
    have e6 : (Int8.ofInt 32).toInt32 * x1 + x3 = nI (32 * c + i) := by rw [e1, e3]; exact nI_mul32 c i
    have c6 : ((Int8.ofInt 32).toInt32 * x1 + x3).toNatClampNeg = 32 * c + i := by rw [e6]; exact nI_clamp (by omega)
    have v6 : vp_in ((Int8.ofInt 32).toInt32 * x1 + x3) 128 := by rw [e6]; exact vp_in_nI (by omega) (by decide)
    have hcmp := c_compare (Y := Y) (d := d) r_channelText r_req b m b0 w.length rfl rfl (Nat.le_trans hbm (Nat.le_trans hce (by decide))) g3 (by decide) (by decide) ty
    rw [← eA, ← eL, ← c6, ← g1, ← g2, ← c2] at hcmp
    refine mjZ_y rfl rfl 29 _ _ _ _ ty ?_
    refine (And.intro rfl (And.intro rfl (And.intro rfl (And.intro v6 (And.intro rfl (And.intro rfl (And.intro v6 (And.intro rfl (And.intro rfl (And.intro rfl (And.intro v2 (And.intro rfl (And.intro rfl (And.intro v2 (And.intro (Nat.le_of_ble_eq_true rfl) (And.intro (Nat.le_of_ble_eq_true rfl) (And.intro (Nat.le_of_ble_eq_true rfl) (mjY_mono ty (fun q_ u1 ty1 h_ => ?_) (hcmp)))))))))))))))))))
    obtain ⟨rfl, r, rfl, hr⟩ := h_
    intro _
    refine mjZ_y rfl rfl 1 _ _ _ _ ty ?_
    refine And.intro (fun q => ?_) (fun q => ?_)
    · refine mjZ_y rfl rfl 2 _ _ _ _ ty ?_
      exact ih (i + 1) _ (by rw [e3]; exact nI_1 i) (by omega)
    · refine mjZ_y rfl rfl 2 _ _ _ _ ty ?_
      refine And.intro rfl (And.intro (Or.inl rfl) ?_)
      exact ⟨rfl, _, rfl, Or.inr ⟨i, by omega, e3⟩⟩
theorem c_channel {σ : mjS} {ws : List (List Int32)} (ar : AR σ ws) (ty : mjTY σ) {qe we ce : Nat} {I : Nat → Nat} {G : Nat → List Req} (h : CX σ qe we ce I G) {c a : Nat} {w : List Int32} (hc : c < 4) (hw : ws[a]? = some w) {x1 x2 : Int32} (e1 : x1 = nI c) (e2 : x2 = nI a) :
    mjY mjPP (mjQQ Y) (d + 1) 142 0 (mjL0 4 [.ref 0, .int x1, .int x2]) [] σ (fun r u => u = σ ∧ ∃ z, r = some (.int z) ∧ (z = -1 ∨ ∃ N i : Nat, N ≤ 32 ∧ σ.2.2.1 r_channels c = nI N ∧ i < N ∧ z = nI i)) := by
  obtain ⟨-, -, -, N, hN, eN, hall⟩ := h.1 c hc
  refine mjZ_y rfl rfl 2 _ _ _ _ ty ?_
  refine (And.intro (Nat.le_of_ble_eq_true rfl) ?_)
  refine mjY_mono ty (fun r u _ q => ?_) (c_channel_loop ar ty hc hN h.2.2.2.2 eN hall hw e1 e2 N 0 _ rfl (by omega))
  obtain ⟨rfl, z, rfl, q⟩ := q
  refine ⟨rfl, z, rfl, q.imp id (fun q => ?_)⟩
  obtain ⟨i, hi, ei⟩ := q
  exact ⟨N, i, hN, eN, hi, ei⟩
set_option maxRecDepth 100000 in
theorem c_told {σ : mjS} (ty : mjTY σ) (ho : oOk σ) {c : Nat} (hc : c < 4) (ec : σ.1 f_cur = nI c) (h : Nat) (x1 x3 x4 : Int32) (hx : ¬ 0 ≤ x4 ∨ ∃ a n : Nat, x3 = nI a ∧ x4 = nI n ∧ mjKd h = 1 ∧ a + n ≤ mjLn h ∧ mjLn h < 2 ^ 31) : mjY mjPP (mjQQ Y) (d + 3) 143 0 (mjL0 5 [.ref 0, .int x1, .ref h, .int x3, .int x4]) [] σ (fun r u => r = none ∧ oO σ u) := by
  refine mjZ_y rfl rfl 3 _ _ _ _ ty ?_
  refine (And.intro (Nat.le_of_ble_eq_true rfl) (And.intro rfl (And.intro (Nat.le_of_ble_eq_true rfl) (And.intro (Nat.le_of_ble_eq_true rfl) (mjY_mono ty (fun q_ u1 ty1 h_ => ?_) (c_row ty ho _))))))
  obtain ⟨rfl, o1⟩ := h_
  intro _
  refine mjZ_y rfl rfl 3 _ _ _ _ ty1 ?_
  refine (And.intro (Nat.le_of_ble_eq_true rfl) (And.intro rfl (And.intro (Nat.le_of_ble_eq_true rfl) (And.intro (Nat.le_of_ble_eq_true rfl) (mjY_mono ty1 (fun q_ u2 ty2 h_ => ?_) (c_emit ty1 o1.2 _))))))
  obtain ⟨rfl, o2⟩ := h_
  intro _
  have o2' := o1.tr o2
  have s12 : ∀ z : Int64, mjY mjPP (mjQQ Y) (d + 3) 143 12 [some (.ref 0), some (.int x1), some (.ref h), some (.int x3), some (.int x4)] [.long z, .ref 0] u2 (fun r u => r = none ∧ oO σ u) := by
    intro z
    refine mjZ_y rfl rfl 1 _ _ _ _ ty2 ?_
    refine (And.intro (Nat.le_of_ble_eq_true rfl) (And.intro rfl (And.intro (Nat.le_of_ble_eq_true rfl) (And.intro (Nat.le_of_ble_eq_true rfl) (mjY_mono ty2 (fun q_ u3 ty3 h_ => ?_) (c_emitNumber ty2 o2.2 z))))))
    obtain ⟨rfl, o3⟩ := h_
    intro _
    refine mjZ_y rfl rfl 2 _ _ _ _ ty3 ?_
    refine (And.intro (Nat.le_of_ble_eq_true rfl) (And.intro rfl (And.intro (Nat.le_of_ble_eq_true rfl) (And.intro (Nat.le_of_ble_eq_true rfl) (mjY_mono ty3 (fun q_ u4 ty4 h_ => ?_) (c_line ty3 o3.2))))))
    obtain ⟨rfl, o4⟩ := h_
    intro _
    have o4' := (o2'.tr o3).tr o4
    have s20 : ∀ u, mjTY u → oO σ u → mjY mjPP (mjQQ Y) (d + 3) 143 20 [some (.ref 0), some (.int x1), some (.ref h), some (.int x3), some (.int x4)] [] u (fun r u => r = none ∧ oO σ u) := by
      intro u tu ou
      refine mjZ_y rfl rfl 3 _ _ _ _ tu ?_
      refine (And.intro (Nat.le_of_ble_eq_true rfl) (And.intro rfl (And.intro (Nat.le_of_ble_eq_true rfl) (And.intro (Nat.le_of_ble_eq_true rfl) (mjY_mono tu (fun q_ u5 ty5 h_ => ?_) (c_letters tu ou.2 _))))))
      obtain ⟨rfl, o5⟩ := h_
      intro _
      refine mjZ_y rfl rfl 3 _ _ _ _ ty5 ?_
      refine (And.intro (Nat.le_of_ble_eq_true rfl) (And.intro rfl (And.intro (Nat.le_of_ble_eq_true rfl) (And.intro (Nat.le_of_ble_eq_true rfl) (mjY_mono ty5 (fun q_ u6 ty6 h_ => ?_) (c_emit ty5 o5.2 _))))))
      obtain ⟨rfl, o6⟩ := h_
      intro _
      refine mjZ_y rfl rfl 2 _ _ _ _ ty6 ?_
      refine (And.intro (Nat.le_of_ble_eq_true rfl) (And.intro rfl (And.intro (Nat.le_of_ble_eq_true rfl) (And.intro (Nat.le_of_ble_eq_true rfl) (mjY_mono ty6 (fun q_ u7 ty7 h_ => ?_) (c_line ty6 o6.2))))))
      obtain ⟨rfl, o7⟩ := h_
      intro _
      have o7' := ((ou.tr o5).tr o6).tr o7
      have s38 : ∀ u, mjTY u → oO σ u → mjY mjPP (mjQQ Y) (d + 3) 143 38 [some (.ref 0), some (.int x1), some (.ref h), some (.int x3), some (.int x4)] [] u (fun r u => r = none ∧ oO σ u) := by
        intro u tu ou
        refine mjZ_y rfl rfl 8 _ _ _ _ tu ?_
        refine (And.intro rfl (And.intro rfl (And.intro rfl (And.intro (show vp_in (u.1 f_cur) 4 by rw [ou.1.1 _ (by decide), ec]; exact vp_in_nI hc (by decide)) (And.intro (Nat.le_of_ble_eq_true rfl) (And.intro rfl (And.intro (Nat.le_of_ble_eq_true rfl) (And.intro (Nat.le_of_ble_eq_true rfl) (mjY_mono tu (fun q_ u8 ty8 h_ => ?_) (c_number tu ou.2 _))))))))))
        obtain ⟨rfl, o8⟩ := h_
        intro _
        refine mjZ_y rfl rfl 1 _ _ _ _ ty8 ?_
        refine And.intro rfl (And.intro rfl ?_)
        exact ⟨rfl, ou.tr o8⟩
      refine mjZ_y rfl rfl 2 _ _ _ _ ty7 ?_
      refine And.intro (fun q => ?_) (fun q => ?_)
      · rcases hx with hx | ⟨a, n, ea, en, hh, hl, hl2⟩
        · exact absurd q hx
        · have hwd := c_word (Y := Y) (d := d) ty7 o7.2 h a n hh hl hl2
          rw [← ea, ← en] at hwd
          refine mjZ_y rfl rfl 5 _ _ _ _ ty7 ?_
          refine (And.intro (Nat.le_of_ble_eq_true rfl) (And.intro rfl (And.intro (Nat.le_of_ble_eq_true rfl) (And.intro (Nat.le_of_ble_eq_true rfl) (mjY_mono ty7 (fun q_ u8 ty8 h_ => ?_) (hwd))))))
          obtain ⟨rfl, o8⟩ := h_
          intro _
          exact s38 u8 ty8 (o7'.tr o8)
      · refine mjZ_y rfl rfl 2 _ _ _ _ ty7 ?_
        refine (And.intro (Nat.le_of_ble_eq_true rfl) (And.intro rfl (And.intro (Nat.le_of_ble_eq_true rfl) (And.intro (Nat.le_of_ble_eq_true rfl) (mjY_mono ty7 (fun q_ u8 ty8 h_ => ?_) (c_nil ty7 o7.2))))))
        obtain ⟨rfl, o8⟩ := h_
        intro _
        refine mjZ_y rfl rfl 1 _ _ _ _ ty8 ?_
        exact s38 u8 ty8 (o7'.tr o8)
    refine mjZ_y rfl rfl 2 _ _ _ _ ty4 ?_
    refine And.intro (fun q => ?_) (fun q => ?_)
    · exact s20 u4 ty4 o4'
    · refine mjZ_y rfl rfl 3 _ _ _ _ ty4 ?_
      refine (And.intro (Nat.le_of_ble_eq_true rfl) (And.intro rfl (And.intro (Nat.le_of_ble_eq_true rfl) (And.intro (Nat.le_of_ble_eq_true rfl) (mjY_mono ty4 (fun q_ u5 ty5 h_ => ?_) (c_letters ty4 o4.2 _))))))
      obtain ⟨rfl, o5⟩ := h_
      intro _
      exact s20 u5 ty5 (o4'.tr o5)
  refine mjZ_y rfl rfl 3 _ _ _ _ ty2 ?_
  refine And.intro (fun q => ?_) (fun q => ?_)
  · refine mjZ_y rfl rfl 1 _ _ _ _ ty2 ?_
    exact s12 _
  · refine mjZ_y rfl rfl 2 _ _ _ _ ty2 ?_
    exact s12 _
/-- the answer is laid by -/
theorem c_pub_a (K : mjK) {N : Nat} (hN : N ≤ 65537) (x2 : Int32) (e2 : x2 = nI N) (x1 x3 : Int32) : ∀ (j k : Nat) (σ : mjS) (x4 : Int32), x4 = nI k → k + j = N → mjTY σ → (∀ u x4, mjTY u → Fr [] [r_held] σ u → mjY mjPP (mjQQ Y) d 148 23 [some (.ref 0), some (.int x1), some (.int x2), some (.int x3), some (.int x4)] [] u K) →
    mjY mjPP (mjQQ Y) d 148 10 [some (.ref 0), some (.int x1), some (.int x2), some (.int x3), some (.int x4)] [] σ K := by
  intro j
  induction j with
  | zero =>
    intro k σ x4 e4 hk ty hK
    refine mjZ_y rfl rfl 3 _ _ _ _ ty ?_
    refine And.intro (fun q => ?_) (fun q => ?_)
    · exact hK σ _ ty Fr.rf
    · exact absurd (show x2 ≤ x4 by rw [e2, e4]; exact nI_le (by omega) (by omega)) q
  | succ j ih =>
    intro k σ x4 e4 hk ty hK
    refine mjZ_y rfl rfl 3 _ _ _ _ ty ?_
    refine And.intro (fun q => ?_) (fun q => ?_)
    · exact absurd (show x2 ≤ x4 from q) (by rw [e2, e4]; exact nI_ge (by omega) (by omega))
    have v4 : vp_in x4 70000 := by rw [e4]; exact vp_in_nI (by omega) (by decide)
    refine mjZ_y rfl rfl 10 _ _ _ _ ty ?_
    refine (And.intro rfl (And.intro rfl (And.intro (Or.inl rfl) (And.intro v4 (And.intro (Or.inl ⟨rfl, ty.2.1 49 _ rfl⟩) (And.intro v4 (fun ty' => ?_)))))))
    exact ih (k + 1) _ _ (by rw [e4]; exact nI_1 k) (by omega) ty' (fun u x4 tu fu => hK u x4 tu ((Fr.a (by decide)).tr fu))
theorem c_pub_b (K : mjK) {N : Nat} (hN : N ≤ 65537) (x2 : Int32) (e2 : x2 = nI N) (x1 x3 : Int32) : ∀ (j k : Nat) (σ : mjS) (x4 : Int32), x4 = nI k → k + j = N → mjTY σ → (∀ u x4, mjTY u → Fr [] [r_answer] σ u → mjY mjPP (mjQQ Y) d 148 109 [some (.ref 0), some (.int x1), some (.int x2), some (.int x3), some (.int x4)] [] u K) →
    mjY mjPP (mjQQ Y) d 148 96 [some (.ref 0), some (.int x1), some (.int x2), some (.int x3), some (.int x4)] [] σ K := by
  intro j
  induction j with
  | zero =>
    intro k σ x4 e4 hk ty hK
    refine mjZ_y rfl rfl 3 _ _ _ _ ty ?_
    refine And.intro (fun q => ?_) (fun q => ?_)
    · exact hK σ _ ty Fr.rf
    · exact absurd (show x2 ≤ x4 by rw [e2, e4]; exact nI_le (by omega) (by omega)) q
  | succ j ih =>
    intro k σ x4 e4 hk ty hK
    refine mjZ_y rfl rfl 3 _ _ _ _ ty ?_
    refine And.intro (fun q => ?_) (fun q => ?_)
    · exact absurd (show x2 ≤ x4 from q) (by rw [e2, e4]; exact nI_ge (by omega) (by omega))
    have v4 : vp_in x4 70000 := by rw [e4]; exact vp_in_nI (by omega) (by decide)
    refine mjZ_y rfl rfl 10 _ _ _ _ ty ?_
    refine (And.intro rfl (And.intro rfl (And.intro (Or.inl rfl) (And.intro v4 (And.intro (Or.inl ⟨rfl, ty.2.1 58 _ rfl⟩) (And.intro v4 (fun ty' => ?_)))))))
    exact ih (k + 1) _ _ (by rw [e4]; exact nI_1 k) (by omega) ty' (fun u x4 tu fu => hK u x4 tu ((Fr.a (by decide)).tr fu))
/-- what PUBLISH may change beside the answer -/
abbrev pbH : List Nat := r_held :: r_answer :: r_digits :: teH
abbrev pbF : List Nat := [f_answerSize, f_tooLong, f_digitsSize]
theorem Wd.pb {σ u : mjS} {ws : List (List Int32)} {ks : List KR} {l : List Int32} (h : Wd σ ws ks l) (f : Fr pbF pbH σ u) (o : oOk u) (t : WT u) : Wd u ws ks l := by
  obtain ⟨⟨hs', fk, fe, k⟩, a, p, -, -⟩ := h
  exact ⟨⟨hs', fk, fe, k.fr f (by decide) (by decide)⟩, a.fr f (by decide) (by decide) (by decide) (by decide), pnd_fr p f (by decide) (by decide), o, t⟩
set_option maxRecDepth 100000 in
theorem c_pub_loop (K : mjK) {ws : List (List Int32)} {w v : List Int32} (h1 : ws[1]? = some w) (h2 : ws[2]? = some v) {ks : List KR} {l : List Int32} {qe we ce : Nat} (x2 x3 : Int32) : ∀ (j c : Nat) (σ : mjS) (x1 x4 : Int32) (I : Nat → Nat) (G : Nat → List Req), x4 = nI c → c + j = 4 → mjTY σ → Wd σ ws ks l → CX σ qe we ce I G →
    (∀ u x1 x4 I' G', mjTY u → Fr pbF pbH σ u → Wd u ws ks l → CX u qe we ce I' G' → CL I I' G G' → mjY mjPP (mjQQ Y) (d + 3) 148 88 [some (.ref 0), some (.int x1), some (.int x2), some (.int x3), some (.int x4)] [] u K) →
    mjY mjPP (mjQQ Y) (d + 3) 148 25 [some (.ref 0), some (.int x1), some (.int x2), some (.int x3), some (.int x4)] [] σ K := by
  intro j
  induction j with
  | zero =>
    intro c σ x1 x4 I G e4 hc ty hW hX hK
    refine mjZ_y rfl rfl 3 _ _ _ _ ty ?_
    refine And.intro (fun q => ?_) (fun q => ?_)
    · exact hK σ _ _ I G ty Fr.rf hW hX CL.rf
    · exact absurd (show Int32.ofInt 4 ≤ x4 by rw [e4]; exact nI_le (a := 4) (by omega) (by omega)) q
  | succ j ih =>
    intro c σ x1 x4 I G e4 hc ty hW hX hK
    refine mjZ_y rfl rfl 3 _ _ _ _ ty ?_
    refine And.intro (fun q => ?_) (fun q => ?_)
    · exact absurd (show Int32.ofInt 4 ≤ x4 from q) (by rw [e4]; exact nI_ge (b := 4) (by omega) (by omega))
    have v4 : vp_in x4 4 := by rw [e4]; exact vp_in_nI (by omega) (by decide)
    have nxt : ∀ u x1 I' G', mjTY u → Fr pbF pbH σ u → Wd u ws ks l → CX u qe we ce I' G' → CL I I' G G' → mjY mjPP (mjQQ Y) (d + 3) 148 86 [some (.ref 0), some (.int x1), some (.int x2), some (.int x3), some (.int x4)] [] u K := by
      intro u x1 I' G' tu fu hu cu lu
      refine mjZ_y rfl rfl 2 _ _ _ _ tu ?_
      exact ih (c + 1) u _ _ I' G' (by rw [e4]; exact nI_1 c) (by omega) tu hu cu (fun z x1 x4 I'' G'' tz fz hz cz lz => hK z x1 x4 I'' G'' tz (fu.tr fz) hz cz (lu.tr lz))
    refine mjZ_y rfl rfl 5 _ _ _ _ ty ?_
    refine (And.intro rfl (And.intro (Or.inr rfl) (And.intro v4 (And.intro (fun o => ?_) (fun o => ?_)))))
    · exact nxt σ x1 I G ty Fr.rf hW hX CL.rf
    refine mjZ_y rfl rfl 4 _ _ _ _ ty ?_
    refine (And.intro (Nat.le_of_ble_eq_true rfl) (And.intro rfl (And.intro (Nat.le_of_ble_eq_true rfl) (And.intro (Nat.le_of_ble_eq_true rfl) (mjY_mono ty (fun q_ u1 ty1 h_ => ?_) (c_channel hW.2.1 ty hX (c := c) (by omega) h1 e4 (x2 := Int32.ofInt 1) rfl))))))
    obtain ⟨rfl, z, rfl, hz⟩ := h_
    intro _
    refine mjZ_y rfl rfl 1 _ _ _ _ ty1 ?_
    refine And.intro (fun g => ?_) (fun g => ?_)
    · refine mjZ_y rfl rfl 7 _ _ _ _ ty1 ?_
      refine (And.intro rfl (And.intro (Or.inl rfl) (fun ty1' => (And.intro rfl (And.intro (Or.inr ⟨rfl, Or.inl rfl⟩) (fun ty1'' => ?_))))))
      have go : ∀ u : mjS, mjTY u → u = (upd (upd u1.1 f_answerSize 0) f_tooLong 0, u1.2) → mjY mjPP (mjQQ Y) (d + 3) 148 46 [some (.ref 0), some (.int (x1 + Int32.ofInt 1)), some (.int x2), some (.int x3), some (.int x4)] [] u K := by
        intro u tu eu
        have fu0 : Fr pbF [] u1 u := by rw [eu]; exact (Fr.i (by decide)).tr (Fr.i (by decide))
        have fu : Fr pbF pbH u1 u := fu0.up (by decide) (by decide)
        have ou : oOk u := ⟨⟨0, by decide, by rw [eu]; show upd (upd u1.1 f_answerSize 0) f_tooLong 0 f_answerSize = _; rw [pk_un (by decide)]; exact pk_us (f := u1.1) (k := f_answerSize) (x := 0)⟩, trivial⟩
        have hu := hW.pb fu ou (hW.2.2.2.2.fr fu0 (by decide) (by decide) (by decide))
        have cu := hX.fr fu0 (by decide) (by decide)
        refine mjZ_y rfl rfl 3 _ _ _ _ tu ?_
        refine (And.intro (Nat.le_of_ble_eq_true rfl) (And.intro rfl (And.intro (Nat.le_of_ble_eq_true rfl) (And.intro (Nat.le_of_ble_eq_true rfl) (mjY_mono tu (fun q_ u2 ty2 h_ => ?_) (w_row hu tu _))))))
        obtain ⟨rfl, h2', o2⟩ := h_
        intro _
        refine mjZ_y rfl rfl 3 _ _ _ _ ty2 ?_
        refine (And.intro (Nat.le_of_ble_eq_true rfl) (And.intro rfl (And.intro (Nat.le_of_ble_eq_true rfl) (And.intro (Nat.le_of_ble_eq_true rfl) (mjY_mono ty2 (fun q_ u3 ty3 h_ => ?_) (w_letters h2' ty2 _))))))
        obtain ⟨rfl, h3, o3⟩ := h_
        intro _
        refine mjZ_y rfl rfl 2 _ _ _ _ ty3 ?_
        refine (And.intro (Nat.le_of_ble_eq_true rfl) (And.intro rfl (And.intro (Nat.le_of_ble_eq_true rfl) (And.intro (Nat.le_of_ble_eq_true rfl) (mjY_mono ty3 (fun q_ u4 ty4 h_ => ?_) (w_line h3 ty3))))))
        obtain ⟨rfl, h4, o4⟩ := h_
        intro _
        refine mjZ_y rfl rfl 3 _ _ _ _ ty4 ?_
        refine (And.intro (Nat.le_of_ble_eq_true rfl) (And.intro rfl (And.intro (Nat.le_of_ble_eq_true rfl) (And.intro (Nat.le_of_ble_eq_true rfl) (mjY_mono ty4 (fun q_ u5 ty5 h_ => ?_) (w_letters h4 ty4 _))))))
        obtain ⟨rfl, h5, o5⟩ := h_
        intro _
        refine mjZ_y rfl rfl 2 _ _ _ _ ty5 ?_
        refine (And.intro (Nat.le_of_ble_eq_true rfl) (And.intro rfl (And.intro (Nat.le_of_ble_eq_true rfl) (And.intro (Nat.le_of_ble_eq_true rfl) (mjY_mono ty5 (fun q_ u6 ty6 h_ => ?_) (w_line h5 ty5))))))
        obtain ⟨rfl, h6, o6⟩ := h_
        intro _
        have va : ∀ k : Int32, k = nI 1 ∨ k = nI 2 → vp_in k 1100 := fun k hk => by
          rcases hk with rfl | rfl
          · exact vp_in_nI (by decide) (by decide)
          · exact vp_in_nI (by decide) (by decide)
        refine mjZ_y rfl rfl 12 _ _ _ _ ty6 ?_
        refine (And.intro rfl (And.intro rfl (And.intro rfl (And.intro (va _ (Or.inl rfl)) (And.intro rfl (And.intro rfl (And.intro (va _ (Or.inl rfl)) (And.intro (Nat.le_of_ble_eq_true rfl) (And.intro rfl (And.intro (Nat.le_of_ble_eq_true rfl) (And.intro (Nat.le_of_ble_eq_true rfl) (mjY_mono ty6 (fun q_ u7 ty7 h_ => ?_) (w_wordA h6 ty6 h1 (x := Int32.ofInt 1) rfl)))))))))))))
        obtain ⟨rfl, h7, o7⟩ := h_
        intro _
        refine mjZ_y rfl rfl 12 _ _ _ _ ty7 ?_
        refine (And.intro rfl (And.intro rfl (And.intro rfl (And.intro (va _ (Or.inr rfl)) (And.intro rfl (And.intro rfl (And.intro (va _ (Or.inr rfl)) (And.intro (Nat.le_of_ble_eq_true rfl) (And.intro rfl (And.intro (Nat.le_of_ble_eq_true rfl) (And.intro (Nat.le_of_ble_eq_true rfl) (mjY_mono ty7 (fun q_ u8 ty8 h_ => ?_) (w_wordA h7 ty7 h2 (x := Int32.ofInt 2) rfl)))))))))))))
        obtain ⟨rfl, h8, o8⟩ := h_
        intro _
        have o8' := ((((((o2.tr o3).tr o4).tr o5).tr o6).tr o7).tr o8)
        have f8 : Fr pbF pbH u1 u8 := fu.tr (o8'.1.up (by decide) (by decide))
        have c8 := cu.fr o8'.1 (by decide) (by decide)
        refine mjZ_y rfl rfl 3 _ _ _ _ ty8 ?_
        refine (And.intro (Nat.le_of_ble_eq_true rfl) (And.intro rfl (And.intro (Nat.le_of_ble_eq_true rfl) (And.intro (Nat.le_of_ble_eq_true rfl) (mjY_mono ty8 (fun q_ u9 ty9 h_ => ?_) (c_tell ty8 h8.2.2.2.1 h8.2.2.2.2 c8 (c := c) (by omega) e4))))))
        obtain ⟨rfl, f9, w9, I', G', c9, l9⟩ := h_
        intro _
        have o9 : oOk u9 := by
          obtain ⟨⟨n, hn, en⟩, -⟩ := h8.2.2.2.1
          exact ⟨⟨n, hn, by rw [f9.1 _ (by decide)]; exact en⟩, trivial⟩
        have f9' : Fr pbF pbH u8 u9 := f9.up (by decide) (by decide)
        exact nxt u9 _ I' G' ty9 (f8.tr f9') (h8.pb f9' o9 w9) c9 l9
      exact go _ ty1'' rfl
    · refine mjZ_y rfl rfl 1 _ _ _ _ ty1 ?_
      exact nxt u1 x1 I G ty1 Fr.rf hW hX CL.rf
set_option maxRecDepth 100000 in
theorem r_publish {σ : mjS} {ws : List (List Int32)} {ks : List KR} {l : List Int32} (h : Wd σ ws ks l) (ty : mjTY σ) {w v : List Int32} (h1 : ws[1]? = some w) (h2 : ws[2]? = some v) {qe we ce : Nat} {I : Nat → Nat} {G : Nat → List Req} (hX : CX σ qe we ce I G) : mjY mjPP (mjQQ Y) (d + 3) 148 0 (mjL0 5 [.ref 0]) [] σ (fun r u => r = none ∧ Fr pbF pbH σ u ∧ Wd u ws ks l ∧ ∃ I' G', CX u qe we ce I' G' ∧ CL I I' G G') := by
  obtain ⟨⟨N, hN, eN⟩, -⟩ := h.2.2.2.1
  refine mjZ_y rfl rfl 10 _ _ _ _ ty ?_
  refine (And.intro (Nat.le_of_ble_eq_true rfl) (And.intro rfl (And.intro (Nat.le_of_ble_eq_true rfl) (And.intro rfl (And.intro (Nat.le_of_ble_eq_true rfl) (And.intro (Nat.le_of_ble_eq_true rfl) ?_))))))
  refine c_pub_a _ hN _ eN _ _ N 0 σ _ rfl (by omega) ty (fun u x4 tu fu => ?_)
  have hu : Wd u ws ks l := h.fr fu (by decide) (by decide)
  have cu := hX.fr fu (by decide) (by decide)
  refine mjZ_y rfl rfl 2 _ _ _ _ tu ?_
  refine (And.intro (Nat.le_of_ble_eq_true rfl) ?_)
  refine c_pub_loop _ h1 h2 _ _ 4 0 u _ _ I G rfl rfl tu hu cu (fun z x1 x4 I' G' tz fz hz cz lz => ?_)
  refine mjZ_y rfl rfl 8 _ _ _ _ tz ?_
  refine (And.intro rfl (And.intro (Or.inl rfl) (fun tz' => (And.intro rfl (And.intro (Or.inr ⟨rfl, (ty.1 f_tooLong rfl)⟩) (fun tz'' => (And.intro (Nat.le_of_ble_eq_true rfl) ?_)))))))
  have go : ∀ t : mjS, mjTY t → t = (upd (upd z.1 f_answerSize (σ.1 f_answerSize)) f_tooLong (σ.1 f_tooLong), z.2) → mjY mjPP (mjQQ Y) (d + 3) 148 96 [some (.ref 0), some (.int x1), some (.int (σ.1 f_answerSize)), some (.int (σ.1 f_tooLong)), some (.int (Int32.ofInt 0))] [] t (fun r u => r = none ∧ Fr pbF pbH σ u ∧ Wd u ws ks l ∧ ∃ I' G', CX u qe we ce I' G' ∧ CL I I' G G') := by
    intro t tt et
    have ft0 : Fr pbF [] z t := by rw [et]; exact (Fr.i (by decide)).tr (Fr.i (by decide))
    have ft : Fr pbF pbH z t := ft0.up (by decide) (by decide)
    have ot : oOk t := ⟨⟨N, hN, by rw [et]; show upd (upd z.1 f_answerSize (σ.1 f_answerSize)) f_tooLong (σ.1 f_tooLong) f_answerSize = _; rw [pk_un (by decide)]; exact (pk_us (f := z.1) (k := f_answerSize) (x := σ.1 f_answerSize)).trans eN⟩, trivial⟩
    have ht := hz.pb ft ot (hz.2.2.2.2.fr ft0 (by decide) (by decide) (by decide))
    have ct := cz.fr ft0 (by decide) (by decide)
    refine c_pub_b _ hN _ eN _ _ N 0 t _ rfl (by omega) tt (fun y x4 ty2 fy => ?_)
    have fy' : Fr pbF pbH t y := fy.up (by decide) (by decide)
    have oy : oOk y := ⟨⟨N, hN, by rw [fy.1 _ (by decide)]; exact ot.1.elim (fun n hn => by rw [et]; show upd (upd z.1 f_answerSize (σ.1 f_answerSize)) f_tooLong (σ.1 f_tooLong) f_answerSize = _; rw [pk_un (by decide)]; exact (pk_us (f := z.1) (k := f_answerSize) (x := σ.1 f_answerSize)).trans eN)⟩, trivial⟩
    have hy := ht.pb fy' oy (ht.2.2.2.2.fr fy (by decide) (by decide) (by decide))
    have cy := ct.fr fy (by decide) (by decide)
    refine mjZ_y rfl rfl 4 _ _ _ _ ty2 ?_
    refine (And.intro (Nat.le_of_ble_eq_true rfl) (And.intro rfl (And.intro (Nat.le_of_ble_eq_true rfl) (And.intro (Nat.le_of_ble_eq_true rfl) (mjY_mono ty2 (fun q_ u9 ty9 h_ => ?_) (w_number hy ty2 _))))))
    obtain ⟨rfl, h9, o9⟩ := h_
    intro _
    refine mjZ_y rfl rfl 1 _ _ _ _ ty9 ?_
    refine And.intro rfl (And.intro rfl ?_)
    exact ⟨rfl, ((((fu.up (by decide) (by decide)).tr fz).tr ft).tr fy').tr (o9.1.up (by decide) (by decide)), h9, I', G', cy.fr o9.1 (by decide) (by decide), lz⟩
  exact go _ tz'' rfl
end CHANS
