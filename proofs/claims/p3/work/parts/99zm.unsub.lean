/-! UNSUBSCRIBE. -/
section UNSUB
variable {Y : Nat → MethodName × ByteArray} {d : Nat}
theorem CH1.mv {σ u : mjS} {ce k n i c q : Nat} (h : CH1 σ ce k n) (hq : k = c → q + 1 < n) (hq2 : q < 32) (hn : n ≤ 32) (e1 : u.2.2.1 r_channelAt = upd (σ.2.2.1 r_channelAt) (32 * c + q) (σ.2.2.1 r_channelAt (32 * c + q + 1))) (e2 : u.2.2.1 r_channelLen = upd (σ.2.2.1 r_channelLen) (32 * c + q) (σ.2.2.1 r_channelLen (32 * c + q + 1))) : CH1 u ce k n := by
  intro j hj
  rw [e1, e2]
  by_cases z : k = c ∧ j = q
  · obtain ⟨rfl, rfl⟩ := z
    rw [pk_us (f := σ.2.2.1 r_channelAt), pk_us (f := σ.2.2.1 r_channelLen)]
    exact h (j + 1) (hq rfl)
  · have z2 : 32 * k + j ≠ 32 * c + q := fun y => z (by omega)
    rw [pk_un z2, pk_un z2]
    exact h j hj
theorem CH1.fr {σ u : mjS} {fs hs : List Nat} {ce k n : Nat} (h : CH1 σ ce k n) (f : Fr fs hs σ u) (h2 : r_channelAt ∉ hs) (h3 : r_channelLen ∉ hs) : CH1 u ce k n := by
  unfold CH1; rw [(f.2.2 _ h2).1, (f.2.2 _ h3).1]; exact h
set_option maxRecDepth 100000 in
theorem c_drop_loop (K : mjK) {c N ce : Nat} (hc : c < 4) (hN : N < 32) (x1 : Int32) (e1 : x1 = nI c) (x2 : Int32) : ∀ (j q : Nat) (σ : mjS) (x3 : Int32), x3 = nI q → q + j = N → mjTY σ → σ.2.2.1 r_channels c = nI N → CH1 σ ce c (N + 1) → CHN σ ce → (∀ u, mjTY u → Fr [] [r_channelAt, r_channelLen] σ u → CHN u ce → K none u) →
    mjY mjPP (mjQQ Y) d 145 10 [some (.ref 0), some (.int x1), some (.int x2), some (.int x3)] [] σ K := by
  have v1 : vp_in x1 4 := by rw [e1]; exact vp_in_nI hc (by decide)
  have c1 : x1.toNatClampNeg = c := by rw [e1]; exact nI_clamp (by omega)
  intro j
  induction j with
  | zero =>
    intro q σ x3 e3 hq ty eN h1 hC hK
    refine mjZ_y rfl rfl 6 _ _ _ _ ty ?_
    refine (And.intro rfl (And.intro rfl (And.intro v1 (And.intro (fun z => ?_) (fun z => ?_)))))
    · refine mjZ_y rfl rfl 1 _ _ _ _ ty ?_
      refine And.intro rfl (And.intro rfl ?_)
      exact hK σ ty Fr.rf hC
    · exact absurd (show σ.2.2.1 r_channels x1.toNatClampNeg ≤ x3 by rw [c1, eN, e3]; exact nI_le (by omega) (by omega)) z
  | succ j ih =>
    intro q σ x3 e3 hq ty eN h1 hC hK
    refine mjZ_y rfl rfl 6 _ _ _ _ ty ?_
    refine (And.intro rfl (And.intro rfl (And.intro v1 (And.intro (fun z => ?_) (fun z => ?_)))))
    · exact absurd (show σ.2.2.1 r_channels x1.toNatClampNeg ≤ x3 from z) (by rw [c1, eN, e3]; exact nI_ge (by omega) (by omega))
    have e6 : (Int8.ofInt 32).toInt32 * x1 + x3 = nI (32 * c + q) := by rw [e1, e3]; exact nI_mul32 c q
    have c6 : ((Int8.ofInt 32).toInt32 * x1 + x3).toNatClampNeg = 32 * c + q := by rw [e6]; exact nI_clamp (by omega)
    have v6 : vp_in ((Int8.ofInt 32).toInt32 * x1 + x3) 128 := by rw [e6]; exact vp_in_nI (by omega) (by decide)
    have c7 : ((Int8.ofInt 32).toInt32 * x1 + x3 + Int32.ofInt 1).toNatClampNeg = 32 * c + q + 1 := by rw [e6, show Int32.ofInt 1 = nI 1 from rfl, nI_add]; exact nI_clamp (by omega)
    have v7 : vp_in ((Int8.ofInt 32).toInt32 * x1 + x3 + Int32.ofInt 1) 128 := by rw [e6, show Int32.ofInt 1 = nI 1 from rfl, nI_add]; exact vp_in_nI (by omega) (by decide)
    refine mjZ_y rfl rfl 38 _ _ _ _ ty ?_
    refine (And.intro rfl (And.intro rfl (And.intro rfl (And.intro v7 (And.intro rfl (And.intro v6 (fun ty' => (And.intro rfl (And.intro rfl (And.intro rfl (And.intro v7 (And.intro rfl (And.intro v6 (fun ty'' => ?_))))))))))))))
    have go : ∀ u : mjS, mjTY u → Fr [] [r_channelAt, r_channelLen] σ u → u.2.2.1 r_channelAt = upd (σ.2.2.1 r_channelAt) (32 * c + q) (σ.2.2.1 r_channelAt (32 * c + q + 1)) → u.2.2.1 r_channelLen = upd (σ.2.2.1 r_channelLen) (32 * c + q) (σ.2.2.1 r_channelLen (32 * c + q + 1)) → mjY mjPP (mjQQ Y) d 145 10 [some (.ref 0), some (.int x1), some (.int x2), some (.int (x3 + Int32.ofInt 1))] [] u K := by
      intro u tu fu a1 a2
      refine ih (q + 1) u _ (by rw [e3]; exact nI_1 q) (by omega) tu (by rw [(fu.2.2 _ (by decide)).1]; exact eN) (h1.mv (i := 0) (fun _ => by omega) (by omega) (by omega) a1 a2) (fun k hk => ?_) (fun v tv fv hv => hK v tv (fu.tr fv) hv)
      obtain ⟨n, n1, n2, n3⟩ := hC k hk
      refine ⟨n, n1, by rw [(fu.2.2 _ (by decide)).1]; exact n2, ?_⟩
      by_cases y : k = c
      · subst y
        have en : n = N := (nI_eq (by omega) (by omega)).mp (n2.symm.trans eN)
        subst en
        have := h1.mv (u := u) (i := 0) (fun _ => by omega) (by omega) (by omega) a1 a2
        exact fun i hi => this i (by omega)
      · exact n3.mv (i := 0) (fun z => absurd z y) (by omega) n1 a1 a2
    refine go _ ty'' ((Fr.a (h := r_channelAt) (by decide)).tr (Fr.a (h := r_channelLen) (by decide))) ?_ ?_
    · show mjIu (mjIu σ.2.2.1 r_channelAt ((Int8.ofInt 32).toInt32 * x1 + x3).toNatClampNeg (σ.2.2.1 r_channelAt ((Int8.ofInt 32).toInt32 * x1 + x3 + Int32.ofInt 1).toNatClampNeg)) r_channelLen ((Int8.ofInt 32).toInt32 * x1 + x3).toNatClampNeg (mjIu σ.2.2.1 r_channelAt ((Int8.ofInt 32).toInt32 * x1 + x3).toNatClampNeg (σ.2.2.1 r_channelAt ((Int8.ofInt 32).toInt32 * x1 + x3 + Int32.ofInt 1).toNatClampNeg) r_channelLen ((Int8.ofInt 32).toInt32 * x1 + x3 + Int32.ofInt 1).toNatClampNeg) r_channelAt = _
      rw [mjIu_ne (by decide), mjIu_self, c6, c7]
    · show mjIu (mjIu σ.2.2.1 r_channelAt ((Int8.ofInt 32).toInt32 * x1 + x3).toNatClampNeg (σ.2.2.1 r_channelAt ((Int8.ofInt 32).toInt32 * x1 + x3 + Int32.ofInt 1).toNatClampNeg)) r_channelLen ((Int8.ofInt 32).toInt32 * x1 + x3).toNatClampNeg (mjIu σ.2.2.1 r_channelAt ((Int8.ofInt 32).toInt32 * x1 + x3).toNatClampNeg (σ.2.2.1 r_channelAt ((Int8.ofInt 32).toInt32 * x1 + x3 + Int32.ofInt 1).toNatClampNeg) r_channelLen ((Int8.ofInt 32).toInt32 * x1 + x3 + Int32.ofInt 1).toNatClampNeg) r_channelLen = _
      rw [mjIu_self, mjIu_ne (by decide), c6, c7]
set_option maxRecDepth 100000 in
theorem c_dropChannel {σ : mjS} (ty : mjTY σ) {c N i ce : Nat} (hc : c < 4) (hN : N ≤ 32) (hi : i < N) (eN : σ.2.2.1 r_channels c = nI N) (hC : CHN σ ce) {x1 x2 : Int32} (e1 : x1 = nI c) (e2 : x2 = nI i) : mjY mjPP (mjQQ Y) d 145 0 (mjL0 4 [.ref 0, .int x1, .int x2]) [] σ (fun r u => r = none ∧ Fr [] [r_channels, r_channelAt, r_channelLen] σ u ∧ CHN u ce ∧ u.2.2.1 r_channels c = nI (N - 1)) := by
  have v1 : vp_in x1 4 := by rw [e1]; exact vp_in_nI hc (by decide)
  have c1 : x1.toNatClampNeg = c := by rw [e1]; exact nI_clamp (by omega)
  have hcC := hC c hc
  obtain ⟨n, n1, n2, n3⟩ := hcC
  have en : n = N := (nI_eq (by omega) (by omega)).mp (n2.symm.trans eN)
  subst en
  refine mjZ_y rfl rfl 10 _ _ _ _ ty ?_
  refine (And.intro rfl (And.intro rfl (And.intro v1 (And.intro rfl (And.intro v1 (fun ty' => (And.intro (Nat.le_of_ble_eq_true rfl) ?_)))))))
  have go : ∀ u : mjS, mjTY u → Fr [] [r_channels] σ u → u.2.2.1 r_channels = upd (σ.2.2.1 r_channels) c (nI (n - 1)) → mjY mjPP (mjQQ Y) d 145 10 [some (.ref 0), some (.int x1), some (.int x2), some (.int x2)] [] u (fun r u => r = none ∧ Fr [] [r_channels, r_channelAt, r_channelLen] σ u ∧ CHN u ce ∧ u.2.2.1 r_channels c = nI (n - 1)) := by
    intro u tu fu eu
    have euc : u.2.2.1 r_channels c = nI (n - 1) := by rw [eu]; exact pk_us (f := σ.2.2.1 r_channels) (k := c) (x := nI (n - 1))
    have h1 : CH1 u ce c n := n3.fr fu (by decide) (by decide)
    refine c_drop_loop _ hc (N := n - 1) (ce := ce) (by omega) x1 e1 x2 (n - 1 - i) i u _ e2 (by omega) tu euc (by rw [show n - 1 + 1 = n by omega]; exact h1) ?_ (fun v tv fv hv => ⟨rfl, (fu.up (by decide) (by decide)).tr (fv.up (by decide) (by decide)), hv, by rw [(fv.2.2 _ (by decide)).1]; exact euc⟩)
    intro k hk
    obtain ⟨m, m1, m2, m3⟩ := hC k hk
    by_cases y : k = c
    · subst y
      exact ⟨n - 1, by omega, euc, fun i hi => h1 i (by omega)⟩
    · exact ⟨m, m1, by rw [eu, pk_un y]; exact m2, m3.fr fu (by decide) (by decide)⟩
  refine go _ ty' (Fr.a (h := r_channels) (by decide)) ?_
  show mjIu σ.2.2.1 r_channels x1.toNatClampNeg (σ.2.2.1 r_channels x1.toNatClampNeg - Int32.ofInt 1) r_channels = _
  rw [mjIu_self, c1, n2, show Int32.ofInt 1 = nI 1 from rfl, pk_sub (by omega)]
set_option maxRecDepth 100000 in
theorem c_least_loop {σ : mjS} (ty : mjTY σ) {c N ce : Nat} (hc : c < 4) (hN : N ≤ 32) (hce : ce ≤ 50000) (eN : σ.2.2.1 r_channels c = nI N) (hall : CH1 σ ce c N) {x1 : Int32} (e1 : x1 = nI c) : ∀ (j i b : Nat) (x2 x3 : Int32), x2 = nI b → x3 = nI i → i + j = N → b < N →
    mjY mjPP (mjQQ Y) (d + 1) 146 4 [some (.ref 0), some (.int x1), some (.int x2), some (.int x3)] [] σ (fun r u => u = σ ∧ ∃ b : Nat, b < N ∧ r = some (.int (nI b))) := by
  have v1 : vp_in x1 4 := by rw [e1]; exact vp_in_nI hc (by decide)
  have c1 : x1.toNatClampNeg = c := by rw [e1]; exact nI_clamp (by omega)
  intro j
  induction j with
  | zero =>
    intro i b x2 x3 e2 e3 hi hb
    refine mjZ_y rfl rfl 6 _ _ _ _ ty ?_
    refine (And.intro rfl (And.intro rfl (And.intro v1 (And.intro (fun q => ?_) (fun q => ?_)))))
    · refine mjZ_y rfl rfl 2 _ _ _ _ ty ?_
      refine And.intro rfl (And.intro (Or.inl rfl) ?_)
      exact ⟨rfl, b, hb, by rw [e2]⟩
    · exact absurd (show σ.2.2.1 r_channels x1.toNatClampNeg ≤ x3 by rw [c1, eN, e3]; exact nI_le (by omega) (by omega)) q
  | succ j ih =>
    intro i b x2 x3 e2 e3 hi hb
    refine mjZ_y rfl rfl 6 _ _ _ _ ty ?_
    refine (And.intro rfl (And.intro rfl (And.intro v1 (And.intro (fun q => ?_) (fun q => ?_)))))
    · exact absurd (show σ.2.2.1 r_channels x1.toNatClampNeg ≤ x3 from q) (by rw [c1, eN, e3]; exact nI_ge (by omega) (by omega))
    obtain ⟨a1, m1, eA1, eL1, hb1⟩ := hall i (by omega)
    obtain ⟨a2, m2, eA2, eL2, hb2⟩ := hall b hb
    have e6 : (Int8.ofInt 32).toInt32 * x1 + x3 = nI (32 * c + i) := by rw [e1, e3]; exact nI_mul32 c i
    have c6 : ((Int8.ofInt 32).toInt32 * x1 + x3).toNatClampNeg = 32 * c + i := by rw [e6]; exact nI_clamp (by omega)
    have v6 : vp_in ((Int8.ofInt 32).toInt32 * x1 + x3) 128 := by rw [e6]; exact vp_in_nI (by omega) (by decide)
    have e7 : (Int8.ofInt 32).toInt32 * x1 + x2 = nI (32 * c + b) := by rw [e1, e2]; exact nI_mul32 c b
    have c7 : ((Int8.ofInt 32).toInt32 * x1 + x2).toNatClampNeg = 32 * c + b := by rw [e7]; exact nI_clamp (by omega)
    have v7 : vp_in ((Int8.ofInt 32).toInt32 * x1 + x2) 128 := by rw [e7]; exact vp_in_nI (by omega) (by decide)
    have hcmp := c_compare (Y := Y) (d := d) r_channelText r_channelText a1 m1 a2 m2 rfl rfl (Nat.le_trans hb1 (Nat.le_trans hce (by decide))) (Nat.le_trans hb2 (Nat.le_trans hce (by decide))) (by decide) (by decide) ty
    rw [← eA1, ← eL1, ← c6, ← eA2, ← eL2, ← c7] at hcmp
    refine mjZ_y rfl rfl 37 _ _ _ _ ty ?_
    refine (And.intro rfl (And.intro rfl (And.intro rfl (And.intro v6 (And.intro rfl (And.intro rfl (And.intro v6 (And.intro rfl (And.intro rfl (And.intro rfl (And.intro v7 (And.intro rfl (And.intro rfl (And.intro v7 (And.intro (Nat.le_of_ble_eq_true rfl) (And.intro (Nat.le_of_ble_eq_true rfl) (And.intro (Nat.le_of_ble_eq_true rfl) (mjY_mono ty (fun q_ u1 ty1 h_ => ?_) (hcmp)))))))))))))))))))
    obtain ⟨rfl, r, rfl, hr⟩ := h_
    intro _
    refine mjZ_y rfl rfl 1 _ _ _ _ ty ?_
    refine And.intro (fun q => ?_) (fun q => ?_)
    · refine mjZ_y rfl rfl 2 _ _ _ _ ty ?_
      exact ih (i + 1) b _ _ e2 (by rw [e3]; exact nI_1 i) (by omega) hb
    · refine mjZ_y rfl rfl 4 _ _ _ _ ty ?_
      refine (And.intro (Nat.le_of_ble_eq_true rfl) ?_)
      exact ih (i + 1) i _ _ e3 (by rw [e3]; exact nI_1 i) (by omega) (by omega)
set_option maxRecDepth 100000 in
theorem c_uns_copy (K : mjK) {a n i : Nat} (ha : a + n ≤ 50000) (x1 x2 x3 : Int32) (e3 : x3 = nI n) (ei : ((Int8.ofInt 32).toInt32 * x1 + x2) = nI i) (hi : i < 128) : ∀ (j k : Nat) (σ : mjS) (x4 : Int32), x4 = nI k → k + j = n → mjTY σ → σ.2.2.1 r_channelAt i = nI a → (∀ u x4, mjTY u → Fr [] [r_work] σ u → mjY mjPP (mjQQ Y) d 147 66 [some (.ref 0), some (.int x1), some (.int x2), some (.int x3), some (.int x4)] [] u K) →
    mjY mjPP (mjQQ Y) d 147 44 [some (.ref 0), some (.int x1), some (.int x2), some (.int x3), some (.int x4)] [] σ K := by
  have vi : vp_in ((Int8.ofInt 32).toInt32 * x1 + x2) 128 := by rw [ei]; exact vp_in_nI hi (by decide)
  have ci : ((Int8.ofInt 32).toInt32 * x1 + x2).toNatClampNeg = i := by rw [ei]; exact nI_clamp (by omega)
  intro j
  induction j with
  | zero =>
    intro k σ x4 e4 hk ty eA hK
    refine mjZ_y rfl rfl 3 _ _ _ _ ty ?_
    refine And.intro (fun q => ?_) (fun q => ?_)
    · exact hK σ _ ty Fr.rf
    · exact absurd (show x3 ≤ x4 by rw [e3, e4]; exact nI_le (by omega) (by omega)) q
  | succ j ih =>
    intro k σ x4 e4 hk ty eA hK
    refine mjZ_y rfl rfl 3 _ _ _ _ ty ?_
    refine And.intro (fun q => ?_) (fun q => ?_)
    · exact absurd (show x3 ≤ x4 from q) (by rw [e3, e4]; exact nI_ge (by omega) (by omega))
    refine mjZ_y rfl rfl 19 _ _ _ _ ty ?_
    refine (And.intro rfl (And.intro rfl (And.intro rfl (And.intro rfl (And.intro vi (And.intro (Or.inl rfl) (And.intro (show vp_in (σ.2.2.1 r_channelAt ((Int8.ofInt 32).toInt32 * x1 + x2).toNatClampNeg + x4) 100000 by rw [ci, eA, e4, nI_add]; exact vp_in_nI (by omega) (by decide)) (And.intro (Or.inl ⟨rfl, ty.2.1 46 _ rfl⟩) (And.intro (show vp_in x4 70000 by rw [e4]; exact vp_in_nI (by omega) (by decide)) (fun ty' => ?_))))))))))
    exact ih (k + 1) _ _ (by rw [e4]; exact nI_1 k) (by omega) ty' eA (fun u x4 tu fu => hK u x4 tu ((Fr.a (by decide)).tr fu))
abbrev unsF : List Nat := [f_answerSize, f_tooLong, f_digitsSize]
abbrev unsH : List Nat := [r_answer, r_digits, r_channels, r_channelAt, r_channelLen, r_work]
theorem Wd.un {σ u : mjS} {ws : List (List Int32)} {ks : List KR} {l : List Int32} (h : Wd σ ws ks l) (f : Fr [] [r_channels, r_channelAt, r_channelLen, r_work] σ u) : Wd u ws ks l := h.fr f (by decide) (by decide)
set_option maxRecDepth 100000 in
theorem c_uns_all (K : mjK) {ws : List (List Int32)} {ks : List KR} {l : List Int32} {c ce : Nat} (hc : c < 4) (hce : ce ≤ 50000) (x1 : Int32) (e1 : x1 = nI c) : ∀ (N : Nat) (σ : mjS) (x2 x3 x4 : Option Int32), N ≤ 32 → mjTY σ → Wd σ ws ks l → σ.1 f_cur = nI c → σ.2.2.1 r_channels c = nI N → CHN σ ce →
    (∀ u, mjTY u → Fr unsF unsH σ u → Wd u ws ks l → CHN u ce → K none u) →
    mjY mjPP (mjQQ Y) (d + 4) 147 24 [some (.ref 0), some (.int x1), x2.map .int, x3.map .int, x4.map .int] [] σ K := by
  have v1 : vp_in x1 4 := by rw [e1]; exact vp_in_nI hc (by decide)
  have c1 : x1.toNatClampNeg = c := by rw [e1]; exact nI_clamp (by omega)
  intro N
  induction N with
  | zero =>
    intro σ x2 x3 x4 hN ty hW ec eN hC hK
    refine mjZ_y rfl rfl 5 _ _ _ _ ty ?_
    refine (And.intro rfl (And.intro rfl (And.intro v1 (And.intro (fun q => ?_) (fun q => ?_)))))
    · refine mjZ_y rfl rfl 1 _ _ _ _ ty ?_
      refine And.intro rfl (And.intro rfl ?_)
      exact hK σ ty Fr.rf hW hC
    · exact absurd (show σ.2.2.1 r_channels x1.toNatClampNeg ≤ 0 by rw [c1, eN]; decide) q
  | succ N ih =>
    intro σ x2 x3 x4 hN ty hW ec eN hC hK
    obtain ⟨n, n1, n2, n3⟩ := hC c hc
    have en : n = N + 1 := (nI_eq (by omega) (by omega)).mp (n2.symm.trans eN)
    subst en
    refine mjZ_y rfl rfl 5 _ _ _ _ ty ?_
    refine (And.intro rfl (And.intro rfl (And.intro v1 (And.intro (fun q => ?_) (fun q => ?_)))))
    · exact absurd (show σ.2.2.1 r_channels x1.toNatClampNeg ≤ 0 from q) (by rw [c1, eN]; exact nI_ge (b := N + 1) (a := 0) (by omega) (by omega))
    have lst : mjY mjPP (mjQQ Y) (d + 3) 146 0 (mjL0 4 [.ref 0, .int x1]) [] σ (fun r u => u = σ ∧ ∃ b : Nat, b < N + 1 ∧ r = some (.int (nI b))) := by
      refine mjZ_y rfl rfl 4 _ _ _ _ ty ?_
      refine (And.intro (Nat.le_of_ble_eq_true rfl) (And.intro (Nat.le_of_ble_eq_true rfl) ?_))
      exact c_least_loop ty hc n1 hce n2 n3 e1 N 1 0 _ _ rfl rfl (by omega) (by omega)
    refine mjZ_y rfl rfl 3 _ _ _ _ ty ?_
    refine (And.intro (Nat.le_of_ble_eq_true rfl) (And.intro rfl (And.intro (Nat.le_of_ble_eq_true rfl) (And.intro (Nat.le_of_ble_eq_true rfl) (mjY_mono ty (fun q_ u1 ty1 h_ => ?_) (lst))))))
    obtain ⟨rfl, b, hb, rfl⟩ := h_
    intro _
    obtain ⟨a, m, eA, eL, ham⟩ := n3 b hb
    have ei : (Int8.ofInt 32).toInt32 * x1 + nI b = nI (32 * c + b) := by rw [e1]; exact nI_mul32 c b
    have vi : vp_in ((Int8.ofInt 32).toInt32 * x1 + nI b) 128 := by rw [ei]; exact vp_in_nI (by omega) (by decide)
    have ci : ((Int8.ofInt 32).toInt32 * x1 + nI b).toNatClampNeg = 32 * c + b := by rw [ei]; exact nI_clamp (by omega)
    refine mjZ_y rfl rfl 12 _ _ _ _ ty1 ?_
    refine (And.intro (Nat.le_of_ble_eq_true rfl) (And.intro rfl (And.intro rfl (And.intro vi (And.intro (Nat.le_of_ble_eq_true rfl) (And.intro (Nat.le_of_ble_eq_true rfl) ?_))))))
    refine c_uns_copy _ (a := a) (n := m) (i := 32 * c + b) (by omega) x1 (nI b) _ (by rw [ci]; exact eL) ei (by omega) m 0 u1 _ rfl (by omega) ty1 eA (fun u x4 tu fu => ?_)
    refine mjZ_y rfl rfl 4 _ _ _ _ tu ?_
    refine (And.intro (Nat.le_of_ble_eq_true rfl) (And.intro rfl (And.intro (Nat.le_of_ble_eq_true rfl) (And.intro (Nat.le_of_ble_eq_true rfl) (mjY_mono tu (fun q_ u2 ty2 h_ => ?_) (c_dropChannel tu hc n1 hb (by rw [(fu.2.2 _ (by decide)).1]; exact eN) (hC.fr fu (by decide) (by decide) (by decide)) e1 rfl))))))
    obtain ⟨rfl, f2, h2, eN2⟩ := h_
    intro _
    have f12 : Fr [] [r_channels, r_channelAt, r_channelLen, r_work] u1 u2 := (fu.up (by decide) (by decide)).tr (f2.up (by decide) (by decide))
    have hW2 := hW.un f12
    have htd := c_told (Y := Y) (d := d) ty2 hW2.2.2.2.1 hc (by rw [f12.1 _ (by decide)]; exact ec) r_work (Int32.ofInt 0) (Int32.ofInt 0) (u1.2.2.1 r_channelLen ((Int8.ofInt 32).toInt32 * x1 + nI b).toNatClampNeg) (Or.inr ⟨0, m, rfl, by rw [ci]; exact eL, rfl, by show 0 + m ≤ 70000; omega, by decide⟩)
    refine mjZ_y rfl rfl 7 _ _ _ _ ty2 ?_
    refine (And.intro rfl (And.intro (Nat.le_of_ble_eq_true rfl) (And.intro rfl (And.intro (Nat.le_of_ble_eq_true rfl) (And.intro (Nat.le_of_ble_eq_true rfl) (mjY_mono ty2 (fun q_ u3 ty3 h_ => ?_) (htd)))))))
    obtain ⟨rfl, o3⟩ := h_
    intro _
    refine mjZ_y rfl rfl 1 _ _ _ _ ty3 ?_
    have f3 : Fr unsF unsH u1 u3 := (f12.up (by decide) (by decide)).tr (o3.1.up (by decide) (by decide))
    exact ih u3 (some (nI b)) (some _) (some _) (by omega) ty3 (hW2.ans o3) (by rw [f3.1 _ (by decide)]; exact ec) (by rw [(o3.1.2.2 _ (by decide)).1]; exact eN2) (h2.fr o3.1 (by decide) (by decide) (by decide)) (fun v tv fv hv cv => hK v tv (f3.tr fv) hv cv)
set_option maxRecDepth 100000 in
theorem c_uns_loop (K : mjK) {ws : List (List Int32)} {ks : List KR} {l : List Int32} {c ce : Nat} (hc : c < 4) (hce : ce ≤ 50000) (x1 : Int32) (e1 : x1 = nI c) : ∀ (j a : Nat) (σ : mjS) (x2 : Int32) (l3 l4 : Option Value), x2 = nI a → a + j = ws.length → mjTY σ → Wd σ ws ks l → σ.1 f_cur = nI c → CHN σ ce →
    (∀ u, mjTY u → Fr unsF unsH σ u → Wd u ws ks l → CHN u ce → K none u) →
    mjY mjPP (mjQQ Y) (d + 4) 147 81 [some (.ref 0), some (.int x1), some (.int x2), l3, l4] [] σ K := by
  have v1 : vp_in x1 4 := by rw [e1]; exact vp_in_nI hc (by decide)
  have c1 : x1.toNatClampNeg = c := by rw [e1]; exact nI_clamp (by omega)
  intro j
  induction j with
  | zero =>
    intro a σ x2 l3 l4 e2 ha ty hW ec hN hK
    have h1024 := hW.2.1.2.1
    refine mjZ_y rfl rfl 4 _ _ _ _ ty ?_
    refine (And.intro rfl (And.intro (fun q => ?_) (fun q => ?_)))
    · refine mjZ_y rfl rfl 1 _ _ _ _ ty ?_
      refine And.intro rfl (And.intro rfl ?_)
      exact hK σ ty Fr.rf hW hN
    · exact absurd (show σ.1 f_words ≤ x2 by rw [hW.2.1.1, e2]; exact nI_le (by omega) (by omega)) q
  | succ j ih =>
    intro a σ x2 l3 l4 e2 ha ty hW ec hN hK
    have h1024 := hW.2.1.2.1
    have hal : a < ws.length := by omega
    obtain ⟨w, hw⟩ : ∃ w, ws[a]? = some w := ⟨ws[a], List.getElem?_eq_getElem hal⟩
    have v2 : vp_in x2 1100 := by rw [e2]; exact vp_in_nI (by omega) (by decide)
    have c2 : x2.toNatClampNeg = a := by rw [e2]; exact nI_clamp (by omega)
    obtain ⟨N, hN32, eN, hall⟩ := hN c hc
    refine mjZ_y rfl rfl 4 _ _ _ _ ty ?_
    refine (And.intro rfl (And.intro (fun q => ?_) (fun q => ?_)))
    · exact absurd (show σ.1 f_words ≤ x2 from q) (by rw [hW.2.1.1, e2]; exact nI_ge (by omega) (by omega))
    have tel : ∀ u l3 l4, mjTY u → Fr unsF unsH σ u → Wd u ws ks l → CHN u ce → mjY mjPP (mjQQ Y) (d + 4) 147 96 [some (.ref 0), some (.int x1), some (.int x2), l3, l4] [] u K := by
      intro u l3 l4 tu fu hu nu
      obtain ⟨b1, k1, k2, k3, k4⟩ := hu.2.1.2.2 a w hw
      have htd := c_told (Y := Y) (d := d) tu hu.2.2.2.1 hc (by rw [fu.1 _ (by decide)]; exact ec) r_req (Int32.ofInt 0) (u.2.2.1 r_aAt x2.toNatClampNeg) (u.2.2.1 r_aLen x2.toNatClampNeg) (Or.inr ⟨b1, w.length, by rw [c2]; exact k1, by rw [c2]; exact k2, rfl, k3, by decide⟩)
      refine mjZ_y rfl rfl 13 _ _ _ _ tu ?_
      refine (And.intro rfl (And.intro rfl (And.intro rfl (And.intro v2 (And.intro rfl (And.intro rfl (And.intro v2 (And.intro (Nat.le_of_ble_eq_true rfl) (And.intro rfl (And.intro (Nat.le_of_ble_eq_true rfl) (And.intro (Nat.le_of_ble_eq_true rfl) (mjY_mono tu (fun q_ u9 ty9 h_ => ?_) (htd)))))))))))))
      obtain ⟨rfl, o9⟩ := h_
      intro _
      refine mjZ_y rfl rfl 2 _ _ _ _ ty9 ?_
      have f9 : Fr unsF unsH u u9 := o9.1.up (by decide) (by decide)
      exact ih (a + 1) u9 _ _ _ (by rw [e2]; exact nI_1 a) (by omega) ty9 (hu.ans o9) (by rw [o9.1.1 _ (by decide), fu.1 _ (by decide)]; exact ec) (nu.fr o9.1 (by decide) (by decide) (by decide)) (fun z tz fz hz nz => hK z tz ((fu.tr f9).tr fz) hz nz)
    have chl2 : mjY mjPP (mjQQ Y) (d + 3) 142 0 (mjL0 4 [.ref 0, .int x1, .int x2]) [] σ (fun r u => u = σ ∧ ∃ z, r = some (.int z) ∧ (z = -1 ∨ ∃ i : Nat, i < N ∧ z = nI i)) := by
      refine mjZ_y rfl rfl 2 _ _ _ _ ty ?_
      refine (And.intro (Nat.le_of_ble_eq_true rfl) ?_)
      exact c_channel_loop (Y := Y) (d := d + 2) hW.2.1 ty hc hN32 hce eN hall hw e1 e2 N 0 _ rfl (by omega)
    refine mjZ_y rfl rfl 4 _ _ _ _ ty ?_
    refine (And.intro (Nat.le_of_ble_eq_true rfl) (And.intro rfl (And.intro (Nat.le_of_ble_eq_true rfl) (And.intro (Nat.le_of_ble_eq_true rfl) (mjY_mono ty (fun q_ u1 ty1 h_ => ?_) (chl2))))))
    obtain ⟨rfl, z, rfl, hz⟩ := h_
    intro _
    refine mjZ_y rfl rfl 3 _ _ _ _ ty1 ?_
    refine (And.intro (Nat.le_of_ble_eq_true rfl) (And.intro (fun r => ?_) (fun r => ?_)))
    · exact tel u1 _ _ ty1 Fr.rf hW hN
    · rcases hz with rfl | ⟨i, hi, rfl⟩
      · exact absurd (show (-1 : Int32) < 0 by decide) r
      · refine mjZ_y rfl rfl 4 _ _ _ _ ty1 ?_
        refine (And.intro (Nat.le_of_ble_eq_true rfl) (And.intro rfl (And.intro (Nat.le_of_ble_eq_true rfl) (And.intro (Nat.le_of_ble_eq_true rfl) (mjY_mono ty1 (fun q_ u2 ty2 h_ => ?_) (c_dropChannel ty1 hc hN32 hi eN hN e1 rfl))))))
        obtain ⟨rfl, f2, h2, eN2⟩ := h_
        intro _
        exact tel u2 _ _ ty2 (f2.up (by decide) (by decide)) (hW.un (f2.up (by decide) (by decide))) h2
set_option maxRecDepth 100000 in
theorem r_unsubscribe {σ : mjS} {ws : List (List Int32)} {ks : List KR} {l : List Int32} (h : Wd σ ws ks l) (ty : mjTY σ) {c : Nat} (hc : c < 4) (ec : σ.1 f_cur = nI c) (h1 : 1 ≤ ws.length) {qe we ce : Nat} {I : Nat → Nat} {G : Nat → List Req} (hX : CX σ qe we ce I G) : mjY mjPP (mjQQ Y) (d + 4) 147 0 (mjL0 5 [.ref 0]) [] σ (fun r u => r = none ∧ Fr unsF unsH σ u ∧ Wd u ws ks l ∧ CX u qe we ce I G) := by
  have vc : vp_in (σ.1 f_cur) 4 := by rw [ec]; exact vp_in_nI hc (by decide)
  have cc : (σ.1 f_cur).toNatClampNeg = c := by rw [ec]; exact nI_clamp (by omega)
  have h1024 := h.2.1.2.1
  obtain ⟨N, hN32, eN, hall⟩ := hX.chn c hc
  have fin : ∀ u, Fr unsF unsH σ u → CHN u ce → CX u qe we ce I G := fun u fu nu => hX.ch fu (by decide) (by decide) (by rw [fu.1 _ (by decide)]; exact hX.2.2.2.1) hX.2.2.2.2 nu
  have rest : mjY mjPP (mjQQ Y) (d + 4) 147 20 [some (.ref 0), some (.int (σ.1 f_cur)), none, none, none] [] σ (fun r u => r = none ∧ Fr unsF unsH σ u ∧ Wd u ws ks l ∧ CX u qe we ce I G) := by
    refine mjZ_y rfl rfl 4 _ _ _ _ ty ?_
    refine (And.intro rfl (And.intro (fun q => ?_) (fun q => ?_)))
    · refine mjZ_y rfl rfl 2 _ _ _ _ ty ?_
      refine (And.intro (Nat.le_of_ble_eq_true rfl) ?_)
      exact c_uns_loop _ hc hX.2.2.2.2 _ ec (ws.length - 1) 1 σ _ _ _ rfl (by omega) ty h ec hX.chn (fun u tu fu hu nu => ⟨rfl, fu, hu, fin u fu nu⟩)
    · exact c_uns_all _ hc hX.2.2.2.2 _ ec N σ none none none hN32 ty h ec eN hX.chn (fun u tu fu hu nu => ⟨rfl, fu, hu, fin u fu nu⟩)
  refine mjZ_y rfl rfl 7 _ _ _ _ ty ?_
  refine (And.intro rfl (And.intro (Nat.le_of_ble_eq_true rfl) (And.intro rfl (And.intro (fun q => ?_) (fun q => ?_)))))
  · exact rest
  · refine mjZ_y rfl rfl 5 _ _ _ _ ty ?_
    refine (And.intro rfl (And.intro rfl (And.intro vc (And.intro (fun r => ?_) (fun r => ?_)))))
    · exact rest
    · have htd := c_told (Y := Y) (d := d) ty h.2.2.2.1 hc ec r_req (Int32.ofInt 0) (Int32.ofInt 0) (Int32.ofInt (-1)) (Or.inl (by decide))
      refine mjZ_y rfl rfl 7 _ _ _ _ ty ?_
      refine (And.intro rfl (And.intro (Nat.le_of_ble_eq_true rfl) (And.intro rfl (And.intro (Nat.le_of_ble_eq_true rfl) (And.intro (Nat.le_of_ble_eq_true rfl) (mjY_mono ty (fun q_ u9 ty9 h_ => ?_) (htd)))))))
      obtain ⟨rfl, o9⟩ := h_
      intro _
      refine mjZ_y rfl rfl 1 _ _ _ _ ty9 ?_
      refine And.intro rfl (And.intro rfl ?_)
      exact ⟨rfl, o9.1.up (by decide) (by decide), h.ans o9, fin u9 (o9.1.up (by decide) (by decide)) (hX.chn.fr o9.1 (by decide) (by decide) (by decide))⟩
end UNSUB
