/-! SUBSCRIBE, UNSUBSCRIBE. -/
section SUBS
variable {Y : Nat → MethodName × ByteArray} {d : Nat}
/-- the channels of a connection stand in the row's filled part -/
def CH1 (σ : mjS) (ce k n : Nat) : Prop := ∀ i, i < n → ∃ a m : Nat, σ.2.2.1 r_channelAt (32 * k + i) = nI a ∧ σ.2.2.1 r_channelLen (32 * k + i) = nI m ∧ a + m ≤ ce
def CHN (σ : mjS) (ce : Nat) : Prop := ∀ k, k < 4 → ∃ n : Nat, n ≤ 32 ∧ σ.2.2.1 r_channels k = nI n ∧ CH1 σ ce k n
theorem CX.chn {σ : mjS} {qe we ce : Nat} {I : Nat → Nat} {G : Nat → List Req} (h : CX σ qe we ce I G) : CHN σ ce := fun k hk => (h.1 k hk).2.2.2
theorem CHN.up {σ : mjS} {ce ce' : Nat} (h : CHN σ ce) (hc : ce ≤ ce') : CHN σ ce' := fun k hk => by
  obtain ⟨n, a, b, e⟩ := h k hk
  refine ⟨n, a, b, fun i hi => ?_⟩
  obtain ⟨x, y, z⟩ := e i hi
  exact ⟨x, y, z.1, z.2.1, Nat.le_trans z.2.2 hc⟩
theorem CHN.fr {σ u : mjS} {fs hs : List Nat} {ce : Nat} (h : CHN σ ce) (f : Fr fs hs σ u) (h1 : r_channels ∉ hs) (h2 : r_channelAt ∉ hs) (h3 : r_channelLen ∉ hs) : CHN u ce := by
  unfold CHN CH1; rw [(f.2.2 _ h1).1, (f.2.2 _ h2).1, (f.2.2 _ h3).1]; exact h
theorem CX.ch {σ u : mjS} {qe we ce ce' : Nat} {I : Nat → Nat} {G : Nat → List Req} {fs hs : List Nat} (h : CX σ qe we ce I G) (f : Fr fs hs σ u) (h1 : ∀ k ∈ [f_queueEnd, f_watchEnd], k ∉ fs) (h2 : ∀ k ∈ [r_opened, r_inSize, r_outSize, r_queued, r_queuedAt, r_queue], k ∉ hs) (e : u.1 f_channelEnd = nI ce') (hc : ce' ≤ 50000) (hn : CHN u ce') : CX u qe we ce' I G := by
  have er : ∀ k ∈ [r_opened, r_inSize, r_outSize, r_queued, r_queuedAt, r_queue], u.2.2.1 k = σ.2.2.1 k := fun k hk => (f.2.2 k (h2 k hk)).1
  obtain ⟨a, b, c, d⟩ := h
  refine ⟨fun k hk => ?_, by rw [f.1 _ (h1 _ (by decide))]; exact b, by rw [f.1 _ (h1 _ (by decide))]; exact c, e, hc⟩
  obtain ⟨a1, a2, a3, -⟩ := a k hk
  refine ⟨?_, ?_, ?_, hn k hk⟩
  · rw [er r_opened (by decide), er r_inSize (by decide)]; exact a1
  · unfold bnd; rw [er r_outSize (by decide)]; exact a2
  · rw [er r_queued (by decide), er r_queuedAt (by decide), er r_queue (by decide)]; exact a3
abbrev suF : List Nat := [f_answerSize, f_tooLong, f_digitsSize, f_channelEnd]
abbrev suH : List Nat := [r_answer, r_digits, r_channels, r_channelAt, r_channelLen, r_channelText, r_work]
theorem Wd.sb {σ u : mjS} {ws : List (List Int32)} {ks : List KR} {l : List Int32} (h : Wd σ ws ks l) (f : Fr suF suH σ u) (o : oOk u) : Wd u ws ks l := by
  obtain ⟨⟨hs', fk, fe, k⟩, a, p, -, t⟩ := h
  exact ⟨⟨hs', fk, fe, k.fr f (by decide) (by decide)⟩, a.fr f (by decide) (by decide) (by decide) (by decide), pnd_fr p f (by decide) (by decide), o, t.fr f (by decide) (by decide) (by decide)⟩
theorem oOk.fr {σ u : mjS} {fs hs : List Nat} (h : oOk σ) (f : Fr fs hs σ u) (h1 : f_answerSize ∉ fs) : oOk u := by
  obtain ⟨⟨n, hn, en⟩, -⟩ := h
  exact ⟨⟨n, hn, by rw [f.1 _ h1]; exact en⟩, trivial⟩
set_option maxRecDepth 100000 in
theorem c_sub_copy (K : mjK) {ce n b a : Nat} (hce : ce + n ≤ 50000) (hb : b + n ≤ 131200) (ha : a < 1100) (x2 : Int32) (e2 : x2 = nI a) (x1 x3 : Int32) : ∀ (j k : Nat) (σ : mjS) (x4 : Int32), x4 = nI k → k + j = n → mjTY σ → σ.1 f_channelEnd = nI ce → σ.2.2.1 r_aLen a = nI n → σ.2.2.1 r_aAt a = nI b → (∀ u x4, mjTY u → Fr [] [r_channelText] σ u → mjY mjPP (mjQQ Y) d 144 79 [some (.ref 0), some (.int x1), some (.int x2), some (.int x3), some (.int x4)] [] u K) →
    mjY mjPP (mjQQ Y) d 144 55 [some (.ref 0), some (.int x1), some (.int x2), some (.int x3), some (.int x4)] [] σ K := by
  have v2 : vp_in x2 1100 := by rw [e2]; exact vp_in_nI ha (by decide)
  have c2 : x2.toNatClampNeg = a := by rw [e2]; exact nI_clamp (by omega)
  intro j
  induction j with
  | zero =>
    intro k σ x4 e4 hk ty ec eL eA hK
    refine mjZ_y rfl rfl 6 _ _ _ _ ty ?_
    refine (And.intro rfl (And.intro rfl (And.intro v2 (And.intro (fun q => ?_) (fun q => ?_)))))
    · exact hK σ _ ty Fr.rf
    · exact absurd (show σ.2.2.1 r_aLen x2.toNatClampNeg ≤ x4 by rw [c2, eL, e4]; exact nI_le (by omega) (by omega)) q
  | succ j ih =>
    intro k σ x4 e4 hk ty ec eL eA hK
    refine mjZ_y rfl rfl 6 _ _ _ _ ty ?_
    refine (And.intro rfl (And.intro rfl (And.intro v2 (And.intro (fun q => ?_) (fun q => ?_)))))
    · exact absurd (show σ.2.2.1 r_aLen x2.toNatClampNeg ≤ x4 from q) (by rw [c2, eL, e4]; exact nI_ge (by omega) (by omega))
    refine mjZ_y rfl rfl 18 _ _ _ _ ty ?_
    refine (And.intro rfl (And.intro rfl (And.intro rfl (And.intro rfl (And.intro rfl (And.intro v2 (And.intro (Or.inl rfl) (And.intro (show vp_in (σ.2.2.1 r_aAt x2.toNatClampNeg + x4) 131200 by rw [c2, eA, e4, nI_add]; exact vp_in_nI (by omega) (by decide)) (And.intro (Or.inl ⟨rfl, ty.2.1 27 _ rfl⟩) (And.intro (show vp_in (σ.1 f_channelEnd + x4) 100000 by rw [ec, e4, nI_add]; exact vp_in_nI (by omega) (by decide)) (fun ty' => ?_)))))))))))
    exact ih (k + 1) _ _ (by rw [e4]; exact nI_1 k) (by omega) ty' ec eL eA (fun u x4 tu fu => hK u x4 tu ((Fr.a (by decide)).tr fu))
theorem CHN_add {σ u : mjS} {ce c n b m : Nat} (h : CHN σ ce) (hc : c < 4) (hn : n < 32) (en : σ.2.2.1 r_channels c = nI n) (hb : b + m ≤ ce) (e1 : u.2.2.1 r_channels = upd (σ.2.2.1 r_channels) c (nI (n + 1))) (e2 : u.2.2.1 r_channelAt = upd (σ.2.2.1 r_channelAt) (32 * c + n) (nI b)) (e3 : u.2.2.1 r_channelLen = upd (σ.2.2.1 r_channelLen) (32 * c + n) (nI m)) : CHN u ce := by
  intro k hk
  obtain ⟨N, hN, eN, hall⟩ := h k hk
  by_cases q : k = c
  · subst q
    have eNn : N = n := (nI_eq (by omega) (by omega)).mp (eN.symm.trans en)
    subst eNn
    refine ⟨N + 1, by omega, by rw [e1]; exact pk_us (f := σ.2.2.1 r_channels) (k := k) (x := nI (N + 1)), fun i hi => ?_⟩
    rw [e2, e3]
    by_cases r : i = N
    · subst r
      exact ⟨b, m, pk_us (f := σ.2.2.1 r_channelAt) (k := 32 * k + i) (x := nI b), pk_us (f := σ.2.2.1 r_channelLen) (k := 32 * k + i) (x := nI m), hb⟩
    · rw [pk_un (show 32 * k + i ≠ 32 * k + N by omega), pk_un (show 32 * k + i ≠ 32 * k + N by omega)]
      exact hall i (by omega)
  · refine ⟨N, hN, by rw [e1, pk_un q]; exact eN, fun i hi => ?_⟩
    rw [e2, e3, pk_un (show 32 * k + i ≠ 32 * c + n by omega), pk_un (show 32 * k + i ≠ 32 * c + n by omega)]
    exact hall i hi
set_option maxRecDepth 100000 in
theorem c_sub_loop (K : mjK) {ws : List (List Int32)} {ks : List KR} {l : List Int32} {c : Nat} (hc : c < 4) (x1 : Int32) (e1 : x1 = nI c) : ∀ (j a : Nat) (σ : mjS) (ce : Nat) (x2 : Int32) (l3 l4 : Option Value), x2 = nI a → a + j = ws.length → mjTY σ → Wd σ ws ks l → σ.1 f_cur = nI c → σ.1 f_channelEnd = nI ce → CHN σ ce → ce + sl (ws.drop a) ≤ 50000 →
    (∀ u ce', mjTY u → Fr suF suH σ u → Wd u ws ks l → u.1 f_channelEnd = nI ce' → CHN u ce' → ce' ≤ ce + sl (ws.drop a) → K none u) →
    mjY mjPP (mjQQ Y) (d + 4) 144 5 [some (.ref 0), some (.int x1), some (.int x2), l3, l4] [] σ K := by
  have v1 : vp_in x1 4 := by rw [e1]; exact vp_in_nI hc (by decide)
  have c1 : x1.toNatClampNeg = c := by rw [e1]; exact nI_clamp (by omega)
  intro j
  induction j with
  | zero =>
    intro a σ ce x2 l3 l4 e2 ha ty hW ec ecE hN hb hK
    have h1024 := hW.2.1.2.1
    refine mjZ_y rfl rfl 4 _ _ _ _ ty ?_
    refine (And.intro rfl (And.intro (fun q => ?_) (fun q => ?_)))
    · refine mjZ_y rfl rfl 1 _ _ _ _ ty ?_
      refine And.intro rfl (And.intro rfl ?_)
      exact hK σ ce ty Fr.rf hW ecE hN (Nat.le_add_right _ _)
    · exact absurd (show σ.1 f_words ≤ x2 by rw [hW.2.1.1, e2]; exact nI_le (by omega) (by omega)) q
  | succ j ih =>
    intro a σ ce x2 l3 l4 e2 ha ty hW ec ecE hN hb hK
    have h1024 := hW.2.1.2.1
    have hal : a < ws.length := by omega
    obtain ⟨w, hw⟩ : ∃ w, ws[a]? = some w := ⟨ws[a], List.getElem?_eq_getElem hal⟩
    have hsl : sl (ws.drop a) = w.length + sl (ws.drop (a + 1)) := by
      rw [List.drop_eq_getElem_cons hal]
      have ew : ws[a] = w := by rw [List.getElem?_eq_getElem hal] at hw; exact Option.some.inj hw
      rw [ew]; rfl
    have v2 : vp_in x2 1100 := by rw [e2]; exact vp_in_nI (by omega) (by decide)
    have c2 : x2.toNatClampNeg = a := by rw [e2]; exact nI_clamp (by omega)
    obtain ⟨b0, g1, g2, g3, g4⟩ := hW.2.1.2.2 a w hw
    obtain ⟨N, hN32, eN, hall⟩ := hN c hc
    refine mjZ_y rfl rfl 4 _ _ _ _ ty ?_
    refine (And.intro rfl (And.intro (fun q => ?_) (fun q => ?_)))
    · exact absurd (show σ.1 f_words ≤ x2 from q) (by rw [hW.2.1.1, e2]; exact nI_ge (by omega) (by omega))
    have nxt : ∀ u ce' l3 l4, mjTY u → Fr suF suH σ u → Wd u ws ks l → u.1 f_channelEnd = nI ce' → CHN u ce' → ce' ≤ ce + w.length → mjY mjPP (mjQQ Y) (d + 4) 144 109 [some (.ref 0), some (.int x1), some (.int x2), l3, l4] [] u K := by
      intro u ce' l3 l4 tu fu hu eu nu lu
      refine mjZ_y rfl rfl 2 _ _ _ _ tu ?_
      exact ih (a + 1) u ce' _ _ _ (by rw [e2]; exact nI_1 a) (by omega) tu hu (by rw [fu.1 _ (by decide)]; exact ec) eu nu (by omega) (fun z ce'' tz fz hz ez nz lz => hK z ce'' tz (fu.tr fz) hz ez nz (by omega))
    have tel : ∀ u ce' l3 l4, mjTY u → Fr suF suH σ u → Wd u ws ks l → u.1 f_channelEnd = nI ce' → CHN u ce' → ce' ≤ ce + w.length → mjY mjPP (mjQQ Y) (d + 4) 144 96 [some (.ref 0), some (.int x1), some (.int x2), l3, l4] [] u K := by
      intro u ce' l3 l4 tu fu hu eu nu lu
      obtain ⟨b1, k1, k2, k3, k4⟩ := hu.2.1.2.2 a w hw
      have htd := c_told (Y := Y) (d := d) tu hu.2.2.2.1 hc (by rw [fu.1 _ (by decide)]; exact ec) r_req (Int32.ofInt 1) (u.2.2.1 r_aAt x2.toNatClampNeg) (u.2.2.1 r_aLen x2.toNatClampNeg) (Or.inr ⟨b1, w.length, by rw [c2]; exact k1, by rw [c2]; exact k2, rfl, k3, by decide⟩)
      refine mjZ_y rfl rfl 13 _ _ _ _ tu ?_
      refine (And.intro rfl (And.intro rfl (And.intro rfl (And.intro v2 (And.intro rfl (And.intro rfl (And.intro v2 (And.intro (Nat.le_of_ble_eq_true rfl) (And.intro rfl (And.intro (Nat.le_of_ble_eq_true rfl) (And.intro (Nat.le_of_ble_eq_true rfl) (mjY_mono tu (fun q_ u9 ty9 h_ => ?_) (htd)))))))))))))
      obtain ⟨rfl, o9⟩ := h_
      intro _
      have f9 : Fr suF suH u u9 := o9.1.up (by decide) (by decide)
      exact nxt u9 ce' _ _ ty9 (fu.tr f9) (hu.ans o9) (by rw [o9.1.1 _ (by decide)]; exact eu) (nu.fr o9.1 (by decide) (by decide) (by decide)) lu
    have chl := c_channel_loop (Y := Y) (d := d + 2) hW.2.1 ty hc hN32 (by omega) eN hall hw e1 e2 N 0 _ rfl (by omega)
    have chl2 : mjY mjPP (mjQQ Y) (d + 3) 142 0 (mjL0 4 [.ref 0, .int x1, .int x2]) [] σ (fun r u => u = σ ∧ ∃ z, r = some (.int z) ∧ (z = -1 ∨ ∃ i : Nat, i < N ∧ z = nI i)) := by
      refine mjZ_y rfl rfl 2 _ _ _ _ ty ?_
      refine (And.intro (Nat.le_of_ble_eq_true rfl) ?_)
      exact chl
    refine mjZ_y rfl rfl 4 _ _ _ _ ty ?_
    refine (And.intro (Nat.le_of_ble_eq_true rfl) (And.intro rfl (And.intro (Nat.le_of_ble_eq_true rfl) (And.intro (Nat.le_of_ble_eq_true rfl) (mjY_mono ty (fun q_ u1 ty1 h_ => ?_) (chl2))))))
    obtain ⟨rfl, z, rfl, hz⟩ := h_
    intro _
    refine mjZ_y rfl rfl 3 _ _ _ _ ty1 ?_
    refine (And.intro (Nat.le_of_ble_eq_true rfl) (And.intro (fun r => ?_) (fun r => ?_)))
    · rcases hz with rfl | ⟨i, hi, rfl⟩
      · exact absurd (show (0 : Int32) ≤ -1 from r) (by decide)
      · refine mjZ_y rfl rfl 2 _ _ _ _ ty1 ?_
        refine And.intro (fun s => ?_) (fun s => ?_)
        · exact tel u1 ce _ _ ty1 Fr.rf hW ecE hN (by omega)
        · exact absurd r s
    · have h32 : (u1.2.2.1 r_channels x1.toNatClampNeg = Int32.ofInt 32) ↔ N = 32 := by
        rw [c1, eN]; exact nI_eq (b := 32) (by omega) (by decide)
      refine mjZ_y rfl rfl 6 _ _ _ _ ty1 ?_
      refine (And.intro rfl (And.intro rfl (And.intro v1 (And.intro (fun s => ?_) (fun s => ?_)))))
      · have s : ¬ N = 32 := fun y => s (h32.mpr y)
        refine mjZ_y rfl rfl 2 _ _ _ _ ty1 ?_
        refine And.intro (fun t => ?_) (fun t => ?_)
        · exact absurd t r
        · have ei : (Int8.ofInt 32).toInt32 * x1 + u1.2.2.1 r_channels x1.toNatClampNeg = nI (32 * c + N) := by rw [c1, eN, e1]; exact nI_mul32 c N
          have vi : vp_in ((Int8.ofInt 32).toInt32 * x1 + u1.2.2.1 r_channels x1.toNatClampNeg) 128 := by rw [ei]; exact vp_in_nI (by omega) (by decide)
          have ci : ((Int8.ofInt 32).toInt32 * x1 + u1.2.2.1 r_channels x1.toNatClampNeg).toNatClampNeg = 32 * c + N := by rw [ei]; exact nI_clamp (by omega)
          refine mjZ_y rfl rfl 25 _ _ _ _ ty1 ?_
          refine (And.intro rfl (And.intro rfl (And.intro v1 (And.intro (Nat.le_of_ble_eq_true rfl) (And.intro rfl (And.intro rfl (And.intro rfl (And.intro vi (fun ty1' => (And.intro rfl (And.intro rfl (And.intro rfl (And.intro v2 (And.intro rfl (And.intro vi (fun ty1'' => (And.intro (Nat.le_of_ble_eq_true rfl) ?_)))))))))))))))))
          have go : ∀ u x3, mjTY u → Fr [] [r_channelAt, r_channelLen] u1 u → u.2.2.1 r_channelAt = upd (u1.2.2.1 r_channelAt) (32 * c + N) (nI ce) → u.2.2.1 r_channelLen = upd (u1.2.2.1 r_channelLen) (32 * c + N) (nI w.length) → mjY mjPP (mjQQ Y) (d + 4) 144 55 [some (.ref 0), some (.int x1), some (.int x2), some (.int x3), some (.int (Int32.ofInt 0))] [] u K := by
            intro u x3 tu fu eA eL
            refine c_sub_copy _ (ce := ce) (n := w.length) (b := b0) (a := a) (by omega) g3 (by omega) x2 e2 _ _ w.length 0 u _ rfl (by omega) tu (by rw [fu.1 _ (by decide)]; exact ecE) (by rw [(fu.2.2 _ (by decide)).1]; exact g2) (by rw [(fu.2.2 _ (by decide)).1]; exact g1) (fun v x4 tv fv => ?_)
            have fuv : Fr [] [r_channelAt, r_channelLen, r_channelText] u1 v := (fu.up (by decide) (by decide)).tr (fv.up (by decide) (by decide))
            have ecv : v.1 f_channelEnd + v.2.2.1 r_aLen x2.toNatClampNeg = nI (ce + w.length) := by rw [fuv.1 _ (by decide), (fuv.2.2 _ (by decide)).1, c2, ecE, g2, nI_add]
            have env : v.2.2.1 r_channels x1.toNatClampNeg + Int32.ofInt 1 = nI (N + 1) := by rw [(fuv.2.2 _ (by decide)).1, c1, eN]; exact nI_1 N
            refine mjZ_y rfl rfl 17 _ _ _ _ tv ?_
            refine (And.intro rfl (And.intro rfl (And.intro rfl (And.intro v2 (And.intro rfl (And.intro (Or.inl rfl) (fun tv' => (And.intro rfl (And.intro rfl (And.intro v1 (And.intro rfl (And.intro v1 (fun tv'' => ?_)))))))))))))
            have go2 : ∀ z : mjS, mjTY z → z = (upd v.1 f_channelEnd (nI (ce + w.length)), v.2.1, mjIu v.2.2.1 r_channels c (nI (N + 1)), v.2.2.2) → mjY mjPP (mjQQ Y) (d + 4) 144 96 [some (.ref 0), some (.int x1), some (.int x2), some (.int x3), some (.int x4)] [] z K := by
              intro z tz ez
              have fz : Fr suF suH v z := by rw [ez]; exact (Fr.i (σ := v) (k := f_channelEnd) (v := nI (ce + w.length)) (by decide)).tr (Fr.a (h := r_channels) (by decide))
              have fa : Fr suF suH u1 z := (fuv.up (by decide) (by decide)).tr fz
              have oz : oOk z := hW.2.2.2.1.fr ((fuv.up (fs' := [f_channelEnd]) (hs' := suH) (by decide) (by decide)).tr (show Fr [f_channelEnd] suH v z by rw [ez]; exact (Fr.i (σ := v) (k := f_channelEnd) (v := nI (ce + w.length)) (by decide)).tr (Fr.a (h := r_channels) (by decide)))) (by decide)
              refine tel z (ce + w.length) _ _ tz fa (hW.sb fa oz) ?_ ?_ (Nat.le_refl _)
              · rw [ez]; exact pk_us (f := v.1) (k := f_channelEnd) (x := nI (ce + w.length))
              · refine CHN_add (hN.up (Nat.le_add_right ce w.length)) hc (by omega) eN (b := ce) (m := w.length) (Nat.le_refl _) ?_ ?_ ?_
                · rw [ez]; show mjIu v.2.2.1 r_channels c (nI (N + 1)) r_channels = _; rw [mjIu_self, (fuv.2.2 _ (by decide)).1]
                · rw [ez]; show mjIu v.2.2.1 r_channels c (nI (N + 1)) r_channelAt = _; rw [mjIu_ne (by decide), (fv.2.2 _ (by decide)).1, eA]
                · rw [ez]; show mjIu v.2.2.1 r_channels c (nI (N + 1)) r_channelLen = _; rw [mjIu_ne (by decide), (fv.2.2 _ (by decide)).1, eL]
            refine go2 _ tv'' ?_
            rw [← ecv, ← env, c1]
            rfl
          refine go _ _ ty1'' ((Fr.a (h := r_channelAt) (by decide)).tr (Fr.a (h := r_channelLen) (by decide))) ?_ ?_
          · show mjIu (mjIu u1.2.2.1 r_channelAt ((Int8.ofInt 32).toInt32 * x1 + u1.2.2.1 r_channels x1.toNatClampNeg).toNatClampNeg (u1.1 f_channelEnd)) r_channelLen ((Int8.ofInt 32).toInt32 * x1 + u1.2.2.1 r_channels x1.toNatClampNeg).toNatClampNeg (mjIu u1.2.2.1 r_channelAt ((Int8.ofInt 32).toInt32 * x1 + u1.2.2.1 r_channels x1.toNatClampNeg).toNatClampNeg (u1.1 f_channelEnd) r_aLen x2.toNatClampNeg) r_channelAt = _
            rw [mjIu_ne (by decide), mjIu_self, ci, ecE]
          · show mjIu (mjIu u1.2.2.1 r_channelAt ((Int8.ofInt 32).toInt32 * x1 + u1.2.2.1 r_channels x1.toNatClampNeg).toNatClampNeg (u1.1 f_channelEnd)) r_channelLen ((Int8.ofInt 32).toInt32 * x1 + u1.2.2.1 r_channels x1.toNatClampNeg).toNatClampNeg (mjIu u1.2.2.1 r_channelAt ((Int8.ofInt 32).toInt32 * x1 + u1.2.2.1 r_channels x1.toNatClampNeg).toNatClampNeg (u1.1 f_channelEnd) r_aLen x2.toNatClampNeg) r_channelLen = _
            rw [mjIu_self, mjIu_ne (by decide), mjIu_ne (by decide), ci, c2, g2]
      · refine mjZ_y rfl rfl 4 _ _ _ _ ty1 ?_
        refine (And.intro (Nat.le_of_ble_eq_true rfl) (And.intro rfl (And.intro (Nat.le_of_ble_eq_true rfl) (And.intro (Nat.le_of_ble_eq_true rfl) (mjY_mono ty1 (fun q_ u2 ty2 h_ => ?_) (w_error hW ty1 _ _))))))
        obtain ⟨rfl, h2, o2⟩ := h_
        intro _
        refine mjZ_y rfl rfl 2 _ _ _ _ ty2 ?_
        exact nxt u2 ce _ _ ty2 (o2.1.up (by decide) (by decide)) h2 (by rw [o2.1.1 _ (by decide)]; exact ecE) (hN.fr o2.1 (by decide) (by decide) (by decide)) (by omega)
theorem r_subscribe {σ : mjS} {ws : List (List Int32)} {ks : List KR} {l : List Int32} (h : Wd σ ws ks l) (ty : mjTY σ) {c : Nat} (hc : c < 4) (ec : σ.1 f_cur = nI c) (h1 : 1 ≤ ws.length) {qe we ce : Nat} {I : Nat → Nat} {G : Nat → List Req} (hX : CX σ qe we ce I G) (hb : ce + sl (ws.drop 1) ≤ 50000) : mjY mjPP (mjQQ Y) (d + 4) 144 0 (mjL0 5 [.ref 0]) [] σ (fun r u => r = none ∧ Fr suF suH σ u ∧ Wd u ws ks l ∧ ∃ ce', CX u qe we ce' I G ∧ ce' ≤ ce + sl (ws.drop 1)) := by
  refine mjZ_y rfl rfl 5 _ _ _ _ ty ?_
  refine (And.intro rfl (And.intro (Nat.le_of_ble_eq_true rfl) (And.intro (Nat.le_of_ble_eq_true rfl) ?_)))
  exact c_sub_loop _ hc _ ec (ws.length - 1) 1 σ ce _ _ _ rfl (by omega) ty h ec hX.2.2.2.1 hX.chn hb (fun u ce' tu fu hu eu nu lu => ⟨rfl, fu, hu, ce', hX.ch fu (by decide) (by decide) eu (by omega) nu, lu⟩)
end SUBS
