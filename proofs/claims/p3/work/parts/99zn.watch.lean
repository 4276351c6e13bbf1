/-! WATCH. -/
section WATCHS
variable {Y : Nat → MethodName × ByteArray} {d : Nat}
set_option maxRecDepth 100000 in
theorem c_isWatched_loop {σ : mjS} {ws : List (List Int32)} (ar : AR σ ws) (ty : mjTY σ) (hT : WT σ) {c N a : Nat} {w : List Int32} (hc : c < 4) (hN : N ≤ 64) (eN : σ.2.2.1 r_watches c = nI N) (hw : ws[a]? = some w) {x1 x2 : Int32} (e1 : x1 = nI c) (e2 : x2 = nI a) : ∀ (j i : Nat) (x3 : Int32), x3 = nI i → i + j = N →
    mjY mjPP (mjQQ Y) (d + 1) 149 2 [some (.ref 0), some (.int x1), some (.int x2), some (.int x3)] [] σ (fun r u => u = σ ∧ ∃ z, r = some (.int z)) := by
  have v1 : vp_in x1 4 := by rw [e1]; exact vp_in_nI hc (by decide)
  have c1 : x1.toNatClampNeg = c := by rw [e1]; exact nI_clamp (by omega)
  have ha := (List.getElem?_eq_some_iff.mp hw).1
  have h1024 := ar.2.1
  have v2 : vp_in x2 1100 := by rw [e2]; exact vp_in_nI (by omega) (by decide)
  have c2 : x2.toNatClampNeg = a := by rw [e2]; exact nI_clamp (by omega)
  obtain ⟨b0, g1, g2, g3, g4⟩ := ar.2.2 a w hw
  obtain ⟨N', hN', eN', hall⟩ := hT c hc
  have eNN : N = N' := (nI_eq (by omega) (by omega)).mp (eN.symm.trans eN')
  subst eNN
  intro j
  induction j with
  | zero =>
    intro i x3 e3 hi
    refine mjZ_y rfl rfl 6 _ _ _ _ ty ?_
    refine (And.intro rfl (And.intro rfl (And.intro v1 (And.intro (fun q => ?_) (fun q => ?_)))))
    · refine mjZ_y rfl rfl 2 _ _ _ _ ty ?_
      refine And.intro rfl (And.intro (Or.inr ⟨rfl, Or.inl rfl⟩) ?_)
      exact ⟨rfl, _, rfl⟩
    · exact absurd (show σ.2.2.1 r_watches x1.toNatClampNeg ≤ x3 by rw [c1, eN, e3]; exact nI_le (by omega) (by omega)) q
  | succ j ih =>
    intro i x3 e3 hi
    refine mjZ_y rfl rfl 6 _ _ _ _ ty ?_
    refine (And.intro rfl (And.intro rfl (And.intro v1 (And.intro (fun q => ?_) (fun q => ?_)))))
    · exact absurd (show σ.2.2.1 r_watches x1.toNatClampNeg ≤ x3 from q) (by rw [c1, eN, e3]; exact nI_ge (by omega) (by omega))
    obtain ⟨b, m, eA, eL, hbm⟩ := hall i (by omega)
    have e6 : (Int8.ofInt 64).toInt32 * x1 + x3 = nI (64 * c + i) := by rw [e1, e3]; exact nI_mul64 c i
    have c6 : ((Int8.ofInt 64).toInt32 * x1 + x3).toNatClampNeg = 64 * c + i := by rw [e6]; exact nI_clamp (by omega)
    have v6 : vp_in ((Int8.ofInt 64).toInt32 * x1 + x3) 256 := by rw [e6]; exact vp_in_nI (by omega) (by decide)
    have hcmp := c_compare (Y := Y) (d := d) r_watchText r_req b m b0 w.length rfl rfl hbm g3 (by decide) (by decide) ty
    rw [← eA, ← eL, ← c6, ← g1, ← g2, ← c2] at hcmp
    refine mjZ_y rfl rfl 29 _ _ _ _ ty ?_
    refine (And.intro rfl (And.intro rfl (And.intro rfl (And.intro v6 (And.intro rfl (And.intro rfl (And.intro v6 (And.intro rfl (And.intro rfl (And.intro rfl (And.intro v2 (And.intro rfl (And.intro rfl (And.intro v2 (And.intro (Nat.le_of_ble_eq_true rfl) (And.intro (Nat.le_of_ble_eq_true rfl) (And.intro (Nat.le_of_ble_eq_true rfl) (mjY_mono ty (fun q_ u1 ty1 h_ => ?_) (hcmp)))))))))))))))))))
    obtain ⟨rfl, r, rfl, hr⟩ := h_
    intro _
    refine mjZ_y rfl rfl 1 _ _ _ _ ty ?_
    refine And.intro (fun q => ?_) (fun q => ?_)
    · refine mjZ_y rfl rfl 2 _ _ _ _ ty ?_
      exact ih (i + 1) _ (by rw [e3]; exact nI_1 i) (by omega)
    · refine mjZ_y rfl rfl 2 _ _ _ _ ty ?_
      refine And.intro rfl (And.intro (Or.inr ⟨rfl, Or.inr rfl⟩) ?_)
      exact ⟨rfl, _, rfl⟩
set_option maxRecDepth 100000 in
theorem c_watch_copy (K : mjK) {ce n b a : Nat} (hce : ce + n ≤ 50000) (hb : b + n ≤ 131200) (ha : a < 1100) (x1 x2 x3 x4 x5 : Int32) (e4 : x4 = nI a) : ∀ (j k : Nat) (σ : mjS) (x6 : Int32), x6 = nI k → k + j = n → mjTY σ → σ.1 f_watchEnd = nI ce → σ.2.2.1 r_aLen a = nI n → σ.2.2.1 r_aAt a = nI b → (∀ u x6, mjTY u → Fr [] [r_watchText] σ u → mjY mjPP (mjQQ Y) d 150 92 [some (.ref 0), some (.int x1), some (.int x2), some (.int x3), some (.int x4), some (.int x5), some (.int x6)] [] u K) →
    mjY mjPP (mjQQ Y) d 150 68 [some (.ref 0), some (.int x1), some (.int x2), some (.int x3), some (.int x4), some (.int x5), some (.int x6)] [] σ K := by
  have v2 : vp_in x4 1100 := by rw [e4]; exact vp_in_nI ha (by decide)
  have c2 : x4.toNatClampNeg = a := by rw [e4]; exact nI_clamp (by omega)
  intro j
  induction j with
  | zero =>
    intro k σ x6 e6 hk ty ec eL eA hK
    refine mjZ_y rfl rfl 6 _ _ _ _ ty ?_
    refine (And.intro rfl (And.intro rfl (And.intro v2 (And.intro (fun q => ?_) (fun q => ?_)))))
    · exact hK σ _ ty Fr.rf
    · exact absurd (show σ.2.2.1 r_aLen x4.toNatClampNeg ≤ x6 by rw [c2, eL, e6]; exact nI_le (by omega) (by omega)) q
  | succ j ih =>
    intro k σ x6 e6 hk ty ec eL eA hK
    refine mjZ_y rfl rfl 6 _ _ _ _ ty ?_
    refine (And.intro rfl (And.intro rfl (And.intro v2 (And.intro (fun q => ?_) (fun q => ?_)))))
    · exact absurd (show σ.2.2.1 r_aLen x4.toNatClampNeg ≤ x6 from q) (by rw [c2, eL, e6]; exact nI_ge (by omega) (by omega))
    refine mjZ_y rfl rfl 18 _ _ _ _ ty ?_
    refine (And.intro rfl (And.intro rfl (And.intro rfl (And.intro rfl (And.intro rfl (And.intro v2 (And.intro (Or.inl rfl) (And.intro (show vp_in (σ.2.2.1 r_aAt x4.toNatClampNeg + x6) 131200 by rw [c2, eA, e6, nI_add]; exact vp_in_nI (by omega) (by decide)) (And.intro (Or.inl ⟨rfl, ty.2.1 27 _ rfl⟩) (And.intro (show vp_in (σ.1 f_watchEnd + x6) 100000 by rw [ec, e6, nI_add]; exact vp_in_nI (by omega) (by decide)) (fun ty' => ?_)))))))))))
    exact ih (k + 1) _ _ (by rw [e6]; exact nI_1 k) (by omega) ty' ec eL eA (fun u x6 tu fu => hK u x6 tu ((Fr.a (by decide)).tr fu))
theorem WT_add {σ u : mjS} {c n b m : Nat} (h : WT σ) (hc : c < 4) (hn : n < 64) (en : σ.2.2.1 r_watches c = nI n) (hb : b + m ≤ 100000) (e1 : u.2.2.1 r_watches = upd (σ.2.2.1 r_watches) c (nI (n + 1))) (e2 : u.2.2.1 r_watchAt = upd (σ.2.2.1 r_watchAt) (64 * c + n) (nI b)) (e3 : u.2.2.1 r_watchLen = upd (σ.2.2.1 r_watchLen) (64 * c + n) (nI m)) : WT u := by
  intro k hk
  obtain ⟨N, hN, eN, hall⟩ := h k hk
  by_cases q : k = c
  · subst q
    have eNn : N = n := (nI_eq (by omega) (by omega)).mp (eN.symm.trans en)
    subst eNn
    refine ⟨N + 1, by omega, by rw [e1]; exact pk_us (f := σ.2.2.1 r_watches) (k := k) (x := nI (N + 1)), fun i hi => ?_⟩
    rw [e2, e3]
    by_cases r : i = N
    · subst r
      exact ⟨b, m, pk_us (f := σ.2.2.1 r_watchAt) (k := 64 * k + i) (x := nI b), pk_us (f := σ.2.2.1 r_watchLen) (k := 64 * k + i) (x := nI m), hb⟩
    · rw [pk_un (show 64 * k + i ≠ 64 * k + N by omega), pk_un (show 64 * k + i ≠ 64 * k + N by omega)]
      exact hall i (by omega)
  · refine ⟨N, hN, by rw [e1, pk_un q]; exact eN, fun i hi => ?_⟩
    rw [e2, e3, pk_un (show 64 * k + i ≠ 64 * c + n by omega), pk_un (show 64 * k + i ≠ 64 * c + n by omega)]
    exact hall i hi
/-- fewer watches -/
theorem WT_less {σ u : mjS} {c n m : Nat} (h : WT σ) (en : σ.2.2.1 r_watches c = nI n) (hm : m ≤ n) (hn : n ≤ 64) (e1 : u.2.2.1 r_watches = upd (σ.2.2.1 r_watches) c (nI m)) (e2 : u.2.2.1 r_watchAt = σ.2.2.1 r_watchAt) (e3 : u.2.2.1 r_watchLen = σ.2.2.1 r_watchLen) : WT u := by
  intro k hk
  obtain ⟨N, hN, eN, hall⟩ := h k hk
  by_cases q : k = c
  · subst q
    have eNn : N = n := (nI_eq (by omega) (by omega)).mp (eN.symm.trans en)
    subst eNn
    refine ⟨m, by omega, by rw [e1]; exact pk_us (f := σ.2.2.1 r_watches) (k := k) (x := nI m), fun i hi => ?_⟩
    rw [e2, e3]; exact hall i (by omega)
  · refine ⟨N, hN, by rw [e1, pk_un q]; exact eN, fun i hi => ?_⟩
    rw [e2, e3]; exact hall i hi
abbrev waF : List Nat := [f_answerSize, f_tooLong, f_digitsSize, f_watchEnd]
abbrev waH : List Nat := [r_answer, r_digits, r_watches, r_watchAt, r_watchLen, r_watchText]
theorem Wd.wa {σ u : mjS} {ws : List (List Int32)} {ks : List KR} {l : List Int32} (h : Wd σ ws ks l) (f : Fr waF waH σ u) (o : oOk u) (t : WT u) : Wd u ws ks l := by
  obtain ⟨⟨hs', fk, fe, k⟩, a, p, -, -⟩ := h
  exact ⟨⟨hs', fk, fe, k.fr f (by decide) (by decide)⟩, a.fr f (by decide) (by decide) (by decide) (by decide), pnd_fr p f (by decide) (by decide), o, t⟩
set_option maxRecDepth 100000 in
theorem c_watch_loop (K : mjK) {ws : List (List Int32)} {ks : List KR} {l : List Int32} {c had size : Nat} (hc : c < 4) (hhad : had ≤ 64) (hsize : size ≤ 50000) (x1 x2 x3 : Int32) (e1 : x1 = nI c) (e2 : x2 = nI had) (e3 : x3 = nI size) : ∀ (j a : Nat) (σ : mjS) (ce n : Nat) (x4 : Int32) (l5 l6 : Option Value), x4 = nI a → a + j = ws.length → mjTY σ → Wd σ ws ks l → σ.1 f_watchEnd = nI ce → σ.2.2.1 r_watches c = nI n → n ≤ 64 → had ≤ n → size ≤ ce → ce + sl (ws.drop a) ≤ 50000 →
    (∀ u ce', mjTY u → Fr waF waH σ u → Wd u ws ks l → u.1 f_watchEnd = nI ce' → ce' ≤ ce + sl (ws.drop a) → K none u) →
    mjY mjPP (mjQQ Y) (d + 4) 150 13 [some (.ref 0), some (.int x1), some (.int x2), some (.int x3), some (.int x4), l5, l6] [] σ K := by
  have v1 : vp_in x1 4 := by rw [e1]; exact vp_in_nI hc (by decide)
  have c1 : x1.toNatClampNeg = c := by rw [e1]; exact nI_clamp (by omega)
  intro j
  induction j with
  | zero =>
    intro a σ ce n x4 l5 l6 e4 ha ty hW ecE eN hn hhn hsc hb hK
    have h1024 := hW.2.1.2.1
    refine mjZ_y rfl rfl 4 _ _ _ _ ty ?_
    refine (And.intro rfl (And.intro (fun q => ?_) (fun q => ?_)))
    · refine mjZ_y rfl rfl 2 _ _ _ _ ty ?_
      refine (And.intro (Nat.le_of_ble_eq_true rfl) (And.intro rfl (And.intro (Nat.le_of_ble_eq_true rfl) (And.intro (Nat.le_of_ble_eq_true rfl) (mjY_mono ty (fun q_ u1 ty1 h_ => ?_) (w_ok hW ty))))))
      obtain ⟨rfl, h1, o1⟩ := h_
      intro _
      refine mjZ_y rfl rfl 1 _ _ _ _ ty1 ?_
      refine And.intro rfl (And.intro rfl ?_)
      exact hK u1 ce ty1 (o1.1.up (by decide) (by decide)) h1 (by rw [o1.1.1 _ (by decide)]; exact ecE) (Nat.le_add_right _ _)
    · exact absurd (show σ.1 f_words ≤ x4 by rw [hW.2.1.1, e4]; exact nI_le (by omega) (by omega)) q
  | succ j ih =>
    intro a σ ce n x4 l5 l6 e4 ha ty hW ecE eN hn hhn hsc hb hK
    have h1024 := hW.2.1.2.1
    have hal : a < ws.length := by omega
    obtain ⟨w, hw⟩ : ∃ w, ws[a]? = some w := ⟨ws[a], List.getElem?_eq_getElem hal⟩
    have hsl : sl (ws.drop a) = w.length + sl (ws.drop (a + 1)) := by
      rw [List.drop_eq_getElem_cons hal]
      have ew : ws[a] = w := by rw [List.getElem?_eq_getElem hal] at hw; exact Option.some.inj hw
      rw [ew]; rfl
    have v4 : vp_in x4 1100 := by rw [e4]; exact vp_in_nI (by omega) (by decide)
    have c4 : x4.toNatClampNeg = a := by rw [e4]; exact nI_clamp (by omega)
    obtain ⟨b0, g1, g2, g3, g4⟩ := hW.2.1.2.2 a w hw
    refine mjZ_y rfl rfl 4 _ _ _ _ ty ?_
    refine (And.intro rfl (And.intro (fun q => ?_) (fun q => ?_)))
    · exact absurd (show σ.1 f_words ≤ x4 from q) (by rw [hW.2.1.1, e4]; exact nI_ge (by omega) (by omega))
    have nxt : ∀ u ce' n' l5 l6, mjTY u → Fr waF waH σ u → Wd u ws ks l → u.1 f_watchEnd = nI ce' → u.2.2.1 r_watches c = nI n' → n' ≤ 64 → had ≤ n' → size ≤ ce' → ce' ≤ ce + w.length → mjY mjPP (mjQQ Y) (d + 4) 150 109 [some (.ref 0), some (.int x1), some (.int x2), some (.int x3), some (.int x4), l5, l6] [] u K := by
      intro u ce' n' l5 l6 tu fu hu eu nu b1 b2 b3 lu
      refine mjZ_y rfl rfl 2 _ _ _ _ tu ?_
      exact ih (a + 1) u ce' n' _ _ _ (by rw [e4]; exact nI_1 a) (by omega) tu hu eu nu b1 b2 b3 (by omega) (fun z ce'' tz fz hz ez lz => hK z ce'' tz (fu.tr fz) hz ez (by omega))
    have chl2 : mjY mjPP (mjQQ Y) (d + 3) 149 0 (mjL0 4 [.ref 0, .int x1, .int x4]) [] σ (fun r u => u = σ ∧ ∃ z, r = some (.int z)) := by
      refine mjZ_y rfl rfl 2 _ _ _ _ ty ?_
      refine (And.intro (Nat.le_of_ble_eq_true rfl) ?_)
      exact c_isWatched_loop (Y := Y) (d := d + 2) hW.2.1 ty hW.2.2.2.2 hc hn eN hw e1 e4 n 0 _ rfl (by omega)
    refine mjZ_y rfl rfl 4 _ _ _ _ ty ?_
    refine (And.intro (Nat.le_of_ble_eq_true rfl) (And.intro rfl (And.intro (Nat.le_of_ble_eq_true rfl) (And.intro (Nat.le_of_ble_eq_true rfl) (mjY_mono ty (fun q_ u1 ty1 h_ => ?_) (chl2))))))
    obtain ⟨rfl, z, rfl⟩ := h_
    intro _
    refine mjZ_y rfl rfl 1 _ _ _ _ ty1 ?_
    refine And.intro (fun r => ?_) (fun r => ?_)
    · have h64 : (u1.2.2.1 r_watches x1.toNatClampNeg = Int32.ofInt 64) ↔ n = 64 := by
        rw [c1, eN]; exact nI_eq (b := 64) (by omega) (by decide)
      refine mjZ_y rfl rfl 6 _ _ _ _ ty1 ?_
      refine (And.intro rfl (And.intro rfl (And.intro v1 (And.intro (fun s => ?_) (fun s => ?_)))))
      · have s : ¬ n = 64 := fun y => s (h64.mpr y)
        have ei : (Int8.ofInt 64).toInt32 * x1 + u1.2.2.1 r_watches x1.toNatClampNeg = nI (64 * c + n) := by rw [c1, eN, e1]; exact nI_mul64 c n
        have vi : vp_in ((Int8.ofInt 64).toInt32 * x1 + u1.2.2.1 r_watches x1.toNatClampNeg) 256 := by rw [ei]; exact vp_in_nI (by omega) (by decide)
        have ci : ((Int8.ofInt 64).toInt32 * x1 + u1.2.2.1 r_watches x1.toNatClampNeg).toNatClampNeg = 64 * c + n := by rw [ei]; exact nI_clamp (by omega)
        refine mjZ_y rfl rfl 25 _ _ _ _ ty1 ?_
        refine (And.intro rfl (And.intro rfl (And.intro v1 (And.intro (Nat.le_of_ble_eq_true rfl) (And.intro rfl (And.intro rfl (And.intro rfl (And.intro vi (fun ty1' => (And.intro rfl (And.intro rfl (And.intro rfl (And.intro v4 (And.intro rfl (And.intro vi (fun ty1'' => (And.intro (Nat.le_of_ble_eq_true rfl) ?_)))))))))))))))))
        have go : ∀ u x5, mjTY u → Fr [] [r_watchAt, r_watchLen] u1 u → u.2.2.1 r_watchAt = upd (u1.2.2.1 r_watchAt) (64 * c + n) (nI ce) → u.2.2.1 r_watchLen = upd (u1.2.2.1 r_watchLen) (64 * c + n) (nI w.length) → mjY mjPP (mjQQ Y) (d + 4) 150 68 [some (.ref 0), some (.int x1), some (.int x2), some (.int x3), some (.int x4), some (.int x5), some (.int (Int32.ofInt 0))] [] u K := by
          intro u x5 tu fu eA eL
          refine c_watch_copy _ (ce := ce) (n := w.length) (b := b0) (a := a) (by omega) g3 (by omega) _ _ _ x4 _ e4 w.length 0 u _ rfl (by omega) tu (by rw [fu.1 _ (by decide)]; exact ecE) (by rw [(fu.2.2 _ (by decide)).1]; exact g2) (by rw [(fu.2.2 _ (by decide)).1]; exact g1) (fun v x6 tv fv => ?_)
          have fuv : Fr [] [r_watchAt, r_watchLen, r_watchText] u1 v := (fu.up (by decide) (by decide)).tr (fv.up (by decide) (by decide))
          have ecv : v.1 f_watchEnd + v.2.2.1 r_aLen x4.toNatClampNeg = nI (ce + w.length) := by rw [fuv.1 _ (by decide), (fuv.2.2 _ (by decide)).1, c4, ecE, g2, nI_add]
          have env : v.2.2.1 r_watches x1.toNatClampNeg + Int32.ofInt 1 = nI (n + 1) := by rw [(fuv.2.2 _ (by decide)).1, c1, eN]; exact nI_1 n
          refine mjZ_y rfl rfl 17 _ _ _ _ tv ?_
          refine (And.intro rfl (And.intro rfl (And.intro rfl (And.intro v4 (And.intro rfl (And.intro (Or.inl rfl) (fun tv' => (And.intro rfl (And.intro rfl (And.intro v1 (And.intro rfl (And.intro v1 (fun tv'' => ?_)))))))))))))
          have go2 : ∀ z : mjS, mjTY z → z = (upd v.1 f_watchEnd (nI (ce + w.length)), v.2.1, mjIu v.2.2.1 r_watches c (nI (n + 1)), v.2.2.2) → mjY mjPP (mjQQ Y) (d + 4) 150 109 [some (.ref 0), some (.int x1), some (.int x2), some (.int x3), some (.int x4), some (.int x5), some (.int x6)] [] z K := by
            intro z tz ez
            have fz0 : Fr [f_watchEnd] waH v z := by rw [ez]; exact (Fr.i (σ := v) (k := f_watchEnd) (v := nI (ce + w.length)) (by decide)).tr (Fr.a (h := r_watches) (by decide))
            have fz : Fr waF waH v z := fz0.up (by decide) (by decide)
            have fa : Fr waF waH u1 z := (fuv.up (by decide) (by decide)).tr fz
            have oz : oOk z := hW.2.2.2.1.fr ((fuv.up (fs' := [f_watchEnd]) (hs' := waH) (by decide) (by decide)).tr fz0) (by decide)
            have ew1 : z.2.2.1 r_watches = upd (u1.2.2.1 r_watches) c (nI (n + 1)) := by
              rw [ez]; show mjIu v.2.2.1 r_watches c (nI (n + 1)) r_watches = _; rw [mjIu_self, (fuv.2.2 _ (by decide)).1]
            have wz : WT z := by
              refine WT_add hW.2.2.2.2 hc (n := n) (b := ce) (m := w.length) (by omega) eN (by omega) ew1 ?_ ?_
              · rw [ez]; show mjIu v.2.2.1 r_watches c (nI (n + 1)) r_watchAt = _; rw [mjIu_ne (by decide), (fv.2.2 _ (by decide)).1, eA]
              · rw [ez]; show mjIu v.2.2.1 r_watches c (nI (n + 1)) r_watchLen = _; rw [mjIu_ne (by decide), (fv.2.2 _ (by decide)).1, eL]
            refine nxt z (ce + w.length) (n + 1) _ _ tz fa (hW.wa fa oz wz) ?_ ?_ (by omega) (by omega) (by omega) (Nat.le_refl _)
            · rw [ez]; exact pk_us (f := v.1) (k := f_watchEnd) (x := nI (ce + w.length))
            · rw [ew1]; exact pk_us (f := u1.2.2.1 r_watches) (k := c) (x := nI (n + 1))
          refine go2 _ tv'' ?_
          rw [← ecv, ← env, c1]
          rfl
        refine go _ _ ty1'' ((Fr.a (h := r_watchAt) (by decide)).tr (Fr.a (h := r_watchLen) (by decide))) ?_ ?_
        · show mjIu (mjIu u1.2.2.1 r_watchAt ((Int8.ofInt 64).toInt32 * x1 + u1.2.2.1 r_watches x1.toNatClampNeg).toNatClampNeg (u1.1 f_watchEnd)) r_watchLen ((Int8.ofInt 64).toInt32 * x1 + u1.2.2.1 r_watches x1.toNatClampNeg).toNatClampNeg (mjIu u1.2.2.1 r_watchAt ((Int8.ofInt 64).toInt32 * x1 + u1.2.2.1 r_watches x1.toNatClampNeg).toNatClampNeg (u1.1 f_watchEnd) r_aLen x4.toNatClampNeg) r_watchAt = _
          rw [mjIu_ne (by decide), mjIu_self, ci, ecE]
        · show mjIu (mjIu u1.2.2.1 r_watchAt ((Int8.ofInt 64).toInt32 * x1 + u1.2.2.1 r_watches x1.toNatClampNeg).toNatClampNeg (u1.1 f_watchEnd)) r_watchLen ((Int8.ofInt 64).toInt32 * x1 + u1.2.2.1 r_watches x1.toNatClampNeg).toNatClampNeg (mjIu u1.2.2.1 r_watchAt ((Int8.ofInt 64).toInt32 * x1 + u1.2.2.1 r_watches x1.toNatClampNeg).toNatClampNeg (u1.1 f_watchEnd) r_aLen x4.toNatClampNeg) r_watchLen = _
          rw [mjIu_self, mjIu_ne (by decide), mjIu_ne (by decide), ci, c4, g2]
      · refine mjZ_y rfl rfl 8 _ _ _ _ ty1 ?_
        refine (And.intro rfl (And.intro rfl (And.intro v1 (fun ty1' => (And.intro rfl (And.intro (Or.inl rfl) (fun ty1'' => ?_)))))))
        have go3 : ∀ z : mjS, mjTY z → z = (upd u1.1 f_watchEnd x3, u1.2.1, mjIu u1.2.2.1 r_watches c x2, u1.2.2.2) → mjY mjPP (mjQQ Y) (d + 4) 150 37 [some (.ref 0), some (.int x1), some (.int x2), some (.int x3), some (.int x4), l5, l6] [] z K := by
          intro z tz ez
          have fz0 : Fr [f_watchEnd] [r_watches] u1 z := by rw [ez]; exact (Fr.a (σ := u1) (h := r_watches) (i := c) (v := x2) (by decide)).tr (Fr.i (σ := (u1.1, u1.2.1, mjIu u1.2.2.1 r_watches c x2, u1.2.2.2)) (k := f_watchEnd) (v := x3) (by decide))
          have fz : Fr waF waH u1 z := fz0.up (by decide) (by decide)
          have wz : WT z := by
            refine WT_less hW.2.2.2.2 eN hhn hn ?_ (fz0.2.2 _ (by decide)).1 (fz0.2.2 _ (by decide)).1
            rw [ez, e2]; show mjIu u1.2.2.1 r_watches c (nI had) r_watches = _; rw [mjIu_self]
          have hz := hW.wa fz (hW.2.2.2.1.fr fz0 (by decide)) wz
          refine mjZ_y rfl rfl 4 _ _ _ _ tz ?_
          refine (And.intro (Nat.le_of_ble_eq_true rfl) (And.intro rfl (And.intro (Nat.le_of_ble_eq_true rfl) (And.intro (Nat.le_of_ble_eq_true rfl) (mjY_mono tz (fun q_ u9 ty9 h_ => ?_) (w_error hz tz _ _))))))
          obtain ⟨rfl, h9, o9⟩ := h_
          intro _
          refine mjZ_y rfl rfl 2 _ _ _ _ ty9 ?_
          refine And.intro rfl (And.intro rfl ?_)
          refine hK u9 size ty9 (fz.tr (o9.1.up (by decide) (by decide))) h9 ?_ (by omega)
          rw [o9.1.1 _ (by decide), ez, ← e3]; exact pk_us (f := u1.1) (k := f_watchEnd) (x := x3)
        refine go3 _ ty1'' ?_
        rw [c1]
        rfl
    · refine mjZ_y rfl rfl 1 _ _ _ _ ty1 ?_
      exact nxt u1 ce n _ _ ty1 Fr.rf hW ecE eN hn hhn hsc (by omega)
set_option maxRecDepth 100000 in
theorem r_watch {σ : mjS} {ws : List (List Int32)} {ks : List KR} {l : List Int32} (h : Wd σ ws ks l) (ty : mjTY σ) {c : Nat} (hc : c < 4) (ec : σ.1 f_cur = nI c) (h1 : 1 ≤ ws.length) {qe we ce : Nat} {I : Nat → Nat} {G : Nat → List Req} (hX : CX σ qe we ce I G) (hb : we + sl (ws.drop 1) ≤ 50000) : mjY mjPP (mjQQ Y) (d + 4) 150 0 (mjL0 7 [.ref 0]) [] σ (fun r u => r = none ∧ Fr waF waH σ u ∧ Wd u ws ks l ∧ ∃ we', CX u qe we' ce I G ∧ we' ≤ we + sl (ws.drop 1)) := by
  have vc : vp_in (σ.1 f_cur) 4 := by rw [ec]; exact vp_in_nI hc (by decide)
  have cc : (σ.1 f_cur).toNatClampNeg = c := by rw [ec]; exact nI_clamp (by omega)
  obtain ⟨n, hn, en, -⟩ := h.2.2.2.2 c hc
  refine mjZ_y rfl rfl 13 _ _ _ _ ty ?_
  refine (And.intro rfl (And.intro (Nat.le_of_ble_eq_true rfl) (And.intro rfl (And.intro rfl (And.intro vc (And.intro (Nat.le_of_ble_eq_true rfl) (And.intro rfl (And.intro (Nat.le_of_ble_eq_true rfl) (And.intro (Nat.le_of_ble_eq_true rfl) ?_)))))))))
  refine c_watch_loop _ hc hn hX.2.2.1.2 _ _ _ ec (by rw [cc]; exact en) hX.2.2.1.1 (ws.length - 1) 1 σ we n _ _ _ rfl (by omega) ty h hX.2.2.1.1 en hn (Nat.le_refl _) (Nat.le_refl _) hb (fun u we' tu fu hu eu lu => ⟨rfl, fu, hu, we', ?_, lu⟩)
  have er : ∀ k ∈ cxH, u.2.2.1 k = σ.2.2.1 k := fun k hk => (fu.2.2 k ((by decide : ∀ k ∈ cxH, k ∉ waH) k hk)).1
  obtain ⟨a, b, -, e⟩ := hX
  refine ⟨fun k hk => ?_, by rw [fu.1 _ (by decide)]; exact b, ⟨eu, by omega⟩, by rw [fu.1 _ (by decide)]; exact e⟩
  have a := a k hk
  unfold CX1 bnd at a ⊢
  rw [er r_opened (by decide), er r_inSize (by decide), er r_outSize (by decide), er r_queued (by decide), er r_queuedAt (by decide), er r_queue (by decide), er r_channels (by decide), er r_channelAt (by decide), er r_channelLen (by decide)]
  exact a
end WATCHS
