/-! A block's commands: laid by, taken again. -/
section QUEUES
variable {Y : Nat → MethodName × ByteArray} {d : Nat}
theorem qsz_app (q r : Req) : qsz (q ++ r) = qsz q + qsz r := by
  induction q with
  | nil => show qsz r = 0 + qsz r; omega
  | cons w q ih => show 3 + w.length + qsz (q ++ r) = 3 + w.length + qsz q + qsz r; rw [ih]; omega
theorem QW_snoc {R : Nat → Int32} {w : List Int32} : ∀ (q : Req) (p : Nat), QW R p q → d3 R (p + qsz q) = nI w.length → wd R (p + qsz q + 3) w.length = w → QW R p (q ++ [w]) := by
  intro q
  induction q with
  | nil => intro p _ h1 h2; exact ⟨h1, h2, trivial⟩
  | cons v q ih =>
    intro p h h1 h2
    have hz : qsz (v :: q) = 3 + v.length + qsz q := rfl
    refine ⟨h.1, h.2.1, ih _ h.2.2 ?_ ?_⟩
    · rw [show p + 3 + v.length + qsz q = p + qsz (v :: q) by omega]; exact h1
    · rw [show p + 3 + v.length + qsz q + 3 = p + qsz (v :: q) + 3 by omega]; exact h2
set_option maxRecDepth 100000 in
theorem c_enq_copy (K : mjK) {p n b a : Nat} (hp : p + n ≤ 220000) (hb : b + n ≤ 131200) (ha : a < 1100) (x1 x2 x3 : Int32) (e2 : x2 = nI p) (e3 : x3 = nI a) (S R0 : Nat → Int32) : ∀ (j k : Nat) (σ : mjS) (x4 : Int32), x4 = nI k → k + j = n → mjTY σ → σ.2.2.1 r_aLen a = nI n → σ.2.2.1 r_aAt a = nI b → σ.2.2.1 r_req = S → σ.2.2.1 r_queue = va_cpy S R0 b p k → (∀ u x4, mjTY u → Fr [] [r_queue] σ u → u.2.2.1 r_queue = va_cpy S R0 b p n → mjY mjPP (mjQQ Y) d 151 101 [some (.ref 0), some (.int x1), some (.int x2), some (.int x3), some (.int x4)] [] u K) →
    mjY mjPP (mjQQ Y) d 151 78 [some (.ref 0), some (.int x1), some (.int x2), some (.int x3), some (.int x4)] [] σ K := by
  have v3 : vp_in x3 1100 := by rw [e3]; exact vp_in_nI ha (by decide)
  have c3 : x3.toNatClampNeg = a := by rw [e3]; exact nI_clamp (by omega)
  intro j
  induction j with
  | zero =>
    intro k σ x4 e4 hk ty eL eA eS eR hK
    have ek : k = n := by omega
    subst ek
    refine mjZ_y rfl rfl 6 _ _ _ _ ty ?_
    refine (And.intro rfl (And.intro rfl (And.intro v3 (And.intro (fun q => ?_) (fun q => ?_)))))
    · exact hK σ _ ty Fr.rf eR
    · exact absurd (show σ.2.2.1 r_aLen x3.toNatClampNeg ≤ x4 by rw [c3, eL, e4]; exact nI_le (by omega) (by omega)) q
  | succ j ih =>
    intro k σ x4 e4 hk ty eL eA eS eR hK
    refine mjZ_y rfl rfl 6 _ _ _ _ ty ?_
    refine (And.intro rfl (And.intro rfl (And.intro v3 (And.intro (fun q => ?_) (fun q => ?_)))))
    · exact absurd (show σ.2.2.1 r_aLen x3.toNatClampNeg ≤ x4 from q) (by rw [c3, eL, e4]; exact nI_ge (by omega) (by omega))
    have i1 : σ.2.2.1 r_aAt x3.toNatClampNeg + x4 = nI (b + k) := by rw [c3, eA, e4, nI_add]
    have i2 : x2 + x4 = nI (p + k) := by rw [e2, e4, nI_add]
    refine mjZ_y rfl rfl 17 _ _ _ _ ty ?_
    refine (And.intro rfl (And.intro rfl (And.intro rfl (And.intro rfl (And.intro v3 (And.intro (Or.inl rfl) (And.intro (show vp_in (σ.2.2.1 r_aAt x3.toNatClampNeg + x4) 131200 by rw [i1]; exact vp_in_nI (by omega) (by decide)) (And.intro (Or.inl ⟨rfl, ty.2.1 27 _ rfl⟩) (And.intro (show vp_in (x2 + x4) 220000 by rw [i2]; exact vp_in_nI (by omega) (by decide)) (fun ty' => ?_))))))))))
    refine ih (k + 1) _ _ (by rw [e4]; exact nI_1 k) (by omega) ty' eL eA eS ?_ (fun u x4 tu fu eu => hK u x4 tu ((Fr.a (by decide)).tr fu) eu)
    show mjIu σ.2.2.1 r_queue (x2 + x4).toNatClampNeg (σ.2.2.1 r_req (σ.2.2.1 r_aAt x3.toNatClampNeg + x4).toNatClampNeg) r_queue = _
    rw [mjIu_self, i1, i2, nI_clamp (by omega), nI_clamp (by omega), eS, eR, cpy_s]
set_option maxRecDepth 100000 in
theorem c_enq_loop (K : mjK) {ws : List (List Int32)} {qe : Nat} (hb : qe + 2 + qsz ws ≤ 200000) (hl : ∀ w ∈ ws, w.length ≤ 16384) (x1 : Int32) : ∀ (j a : Nat) (σ : mjS) (x2 x3 : Int32) (l4 : Option Value), x3 = nI a → a + j = ws.length → x2 = nI (qe + 2 + qsz (ws.take a)) → mjTY σ → AR σ ws → d2 (σ.2.2.1 r_queue) qe = nI ws.length → QW (σ.2.2.1 r_queue) (qe + 2) (ws.take a) →
    (∀ u x2 x3 l4, mjTY u → Fr [] [r_queue] σ u → (∀ j, j < qe → u.2.2.1 r_queue j = σ.2.2.1 r_queue j) → QE (u.2.2.1 r_queue) qe ws → x2 = nI (qe + 2 + qsz ws) → mjY mjPP (mjQQ Y) d 151 110 [some (.ref 0), some (.int x1), some (.int x2), some (.int x3), l4] [] u K) →
    mjY mjPP (mjQQ Y) d 151 36 [some (.ref 0), some (.int x1), some (.int x2), some (.int x3), l4] [] σ K := by
  intro j
  induction j with
  | zero =>
    intro a σ x2 x3 l4 e3 ha e2 ty har h2 hq hK
    have h1024 := har.2.1
    have et : ws.take a = ws := List.take_of_length_le (by omega)
    rw [et] at e2 hq
    refine mjZ_y rfl rfl 4 _ _ _ _ ty ?_
    refine (And.intro rfl (And.intro (fun q => ?_) (fun q => ?_)))
    · exact hK σ _ _ _ ty Fr.rf (fun _ _ => rfl) ⟨h2, hq⟩ e2
    · exact absurd (show σ.1 f_words ≤ x3 by rw [har.1, e3]; exact nI_le (by omega) (by omega)) q
  | succ j ih =>
    intro a σ x2 x3 l4 e3 ha e2 ty har h2 hq hK
    have h1024 := har.2.1
    have hal : a < ws.length := by omega
    obtain ⟨w, hw⟩ : ∃ w, ws[a]? = some w := ⟨ws[a], List.getElem?_eq_getElem hal⟩
    have et : ws.take (a + 1) = ws.take a ++ [w] := by
      rw [List.take_succ_eq_append_getElem hal]
      have ew : ws[a] = w := by rw [List.getElem?_eq_getElem hal] at hw; exact Option.some.inj hw
      rw [ew]
    have hwl := hl w (List.mem_of_getElem? hw)
    obtain ⟨p, hp⟩ : ∃ p, p = qe + 2 + qsz (ws.take a) := ⟨_, rfl⟩
    have hle : qsz (ws.take a) + (3 + w.length) ≤ qsz ws := by
      have e : qsz ws = qsz (ws.take (a + 1)) + qsz (ws.drop (a + 1)) := by rw [← qsz_app, List.take_append_drop]
      rw [e, et, qsz_app]; show _ ≤ qsz (ws.take a) + (3 + w.length + 0) + _; omega
    have e2 : x2 = nI p := by rw [hp]; exact e2
    have v3 : vp_in x3 1100 := by rw [e3]; exact vp_in_nI (by omega) (by decide)
    have c3 : x3.toNatClampNeg = a := by rw [e3]; exact nI_clamp (by omega)
    obtain ⟨b0, g1, g2, g3, g4⟩ := har.2.2 a w hw
    refine mjZ_y rfl rfl 4 _ _ _ _ ty ?_
    refine (And.intro rfl (And.intro (fun q => ?_) (fun q => ?_)))
    · exact absurd (show σ.1 f_words ≤ x3 from q) (by rw [har.1, e3]; exact nI_ge (by omega) (by omega))
    have i1 : x2 + Int32.ofInt 1 = nI (p + 1) := by rw [e2]; exact nI_1 p
    have i2 : x2 + Int32.ofInt 2 = nI (p + 2) := by rw [e2, show Int32.ofInt 2 = nI 2 from rfl, nI_add]
    refine mjZ_y rfl rfl 38 _ _ _ _ ty ?_
    refine (And.intro rfl (And.intro rfl (And.intro rfl (And.intro v3 (And.intro (Or.inl ⟨rfl, b8 _⟩) (And.intro (show vp_in x2 220000 by rw [e2]; exact vp_in_nI (by omega) (by decide)) (fun ty' => (And.intro rfl (And.intro rfl (And.intro rfl (And.intro v3 (And.intro (Or.inl ⟨rfl, b8 _⟩) (And.intro (show vp_in (x2 + Int32.ofInt 1) 220000 by rw [i1]; exact vp_in_nI (by omega) (by decide)) (fun ty'' => (And.intro rfl (And.intro rfl (And.intro rfl (And.intro v3 (And.intro (Or.inl ⟨rfl, b8 _⟩) (And.intro (show vp_in (x2 + Int32.ofInt 2) 220000 by rw [i2]; exact vp_in_nI (by omega) (by decide)) (fun ty''' => (And.intro (Nat.le_of_ble_eq_true rfl) ?_))))))))))))))))))))))
    have go : ∀ u : mjS, mjTY u → Fr [] [r_queue] σ u → u.2.2.1 r_queue = upd (upd (upd (σ.2.2.1 r_queue) p (nI w.length >>> s16).toInt8.toInt32) (p + 1) (nI w.length >>> s8).toInt8.toInt32) (p + 2) (nI w.length).toInt8.toInt32 → mjY mjPP (mjQQ Y) d 151 78 [some (.ref 0), some (.int x1), some (.int (x2 + Int32.ofInt 3)), some (.int x3), some (.int (Int32.ofInt 0))] [] u K := by
      intro u tu fu eu
      refine c_enq_copy _ (p := p + 3) (n := w.length) (b := b0) (a := a) (by omega) g3 (by omega) x1 _ x3 (by rw [e2, show Int32.ofInt 3 = nI 3 from rfl, nI_add]) e3 (u.2.2.1 r_req) (u.2.2.1 r_queue) w.length 0 u _ rfl (by omega) tu (by rw [(fu.2.2 _ (by decide)).1]; exact g2) (by rw [(fu.2.2 _ (by decide)).1]; exact g1) rfl cpy_0.symm (fun v x4 tv fv ev => ?_)
      have fuv := fu.tr fv
      have lo : ∀ j, j < p → v.2.2.1 r_queue j = σ.2.2.1 r_queue j := fun j hj => by
        rw [ev, cpy_lo (by omega), eu, pk_un (by omega), pk_un (by omega), pk_un (by omega)]
      have r0 : v.2.2.1 r_queue p = (nI w.length >>> s16).toInt8.toInt32 := by rw [ev, cpy_lo (by omega), eu, pk_un (by omega), pk_un (by omega)]; exact pk_us (f := σ.2.2.1 r_queue)
      have r1 : v.2.2.1 r_queue (p + 1) = (nI w.length >>> s8).toInt8.toInt32 := by rw [ev, cpy_lo (by omega), eu, pk_un (by omega)]; exact pk_us (f := upd (σ.2.2.1 r_queue) p (nI w.length >>> s16).toInt8.toInt32)
      have r2 : v.2.2.1 r_queue (p + 2) = (nI w.length).toInt8.toInt32 := by rw [ev, cpy_lo (by omega), eu]; exact pk_us (f := upd (upd (σ.2.2.1 r_queue) p (nI w.length >>> s16).toInt8.toInt32) (p + 1) (nI w.length >>> s8).toInt8.toInt32)
      have hQ : QW (v.2.2.1 r_queue) (qe + 2) (ws.take (a + 1)) := by
        rw [et]
        refine QW_snoc _ _ (hq.fr (e := p) lo _ _ (by omega)) ?_ ?_
        · rw [← hp]; unfold d3; rw [r0, r1, r2]; exact b3 _ hwl
        · rw [← hp, ev, cpy_wd, (fu.2.2 _ (by decide)).1]; exact g4
      have elen : v.2.2.1 r_aLen x3.toNatClampNeg = nI w.length := by rw [c3, (fuv.2.2 _ (by decide)).1]; exact g2
      refine mjZ_y rfl rfl 9 _ _ _ _ tv ?_
      refine (And.intro rfl (And.intro rfl (And.intro v3 (And.intro (Nat.le_of_ble_eq_true rfl) ?_))))
      refine ih (a + 1) v _ _ _ (by rw [e3]; exact nI_1 a) (by omega) ?_ tv (har.fr fuv (by decide) (by decide) (by decide) (by decide)) ?_ hQ (fun z x2 x3 l4 tz fz oz qz ez => hK z x2 x3 l4 tz (fuv.tr fz) (fun j hj => (oz j hj).trans (lo j (by omega))) qz ez)
      · show x2 + Int32.ofInt 3 + v.2.2.1 r_aLen x3.toNatClampNeg = _
        rw [elen, e2, show Int32.ofInt 3 = nI 3 from rfl, nI_add, nI_add, et, qsz_app]
        refine congrArg nI ?_
        show p + 3 + w.length = qe + 2 + (qsz (ws.take a) + (3 + w.length + 0)); omega
      · rw [← h2]; unfold d2; rw [lo qe (by omega), lo (qe + 1) (by omega)]
    refine go _ ty''' (((Fr.a (h := r_queue) (by decide)).tr (Fr.a (h := r_queue) (by decide))).tr (Fr.a (h := r_queue) (by decide))) ?_
    show mjIu (mjIu (mjIu σ.2.2.1 r_queue x2.toNatClampNeg (σ.2.2.1 r_aLen x3.toNatClampNeg >>> s16).toInt8.toInt32) r_queue (x2 + Int32.ofInt 1).toNatClampNeg (mjIu σ.2.2.1 r_queue x2.toNatClampNeg (σ.2.2.1 r_aLen x3.toNatClampNeg >>> s16).toInt8.toInt32 r_aLen x3.toNatClampNeg >>> s8).toInt8.toInt32) r_queue (x2 + Int32.ofInt 2).toNatClampNeg (mjIu (mjIu σ.2.2.1 r_queue x2.toNatClampNeg (σ.2.2.1 r_aLen x3.toNatClampNeg >>> s16).toInt8.toInt32) r_queue (x2 + Int32.ofInt 1).toNatClampNeg (mjIu σ.2.2.1 r_queue x2.toNatClampNeg (σ.2.2.1 r_aLen x3.toNatClampNeg >>> s16).toInt8.toInt32 r_aLen x3.toNatClampNeg >>> s8).toInt8.toInt32 r_aLen x3.toNatClampNeg).toInt8.toInt32 r_queue = _
    rw [mjIu_self, mjIu_self, mjIu_self, mjIu_ne (g := r_aLen) (by decide), mjIu_ne (g := r_aLen) (by decide), c3, g2, i1, i2, e2, nI_clamp (by omega), nI_clamp (by omega), nI_clamp (by omega)]
    rw [mjIu_ne (g := r_aLen) (by decide), g2]
def Gq (G : Nat → List Req) (c : Nat) (ws : Req) : Nat → List Req := fun k => if k = c then G k ++ [ws] else G k
theorem nI_mul200 (c i : Nat) : (Int16.ofInt 200).toInt32 * nI c + nI i = nI (200 * c + i) := by
  rw [show (Int16.ofInt 200).toInt32 = nI 200 from by decide, pk_mul, nI_add]
set_option maxRecDepth 100000 in
theorem c_enqueue {σ : mjS} {ws : List (List Int32)} (har : AR σ ws) (ty : mjTY σ) {c : Nat} (hc : c < 4) {qe we ce : Nat} {I : Nat → Nat} {G : Nat → List Req} (hX : CX σ qe we ce I G) (hq : (G c).length < 200) (hb : qe + 2 + qsz ws ≤ 200000) (hl : ∀ w ∈ ws, w.length ≤ 16384) {x1 : Int32} (e1 : x1 = nI c) : mjY mjPP (mjQQ Y) d 151 0 (mjL0 5 [.ref 0, .int x1]) [] σ (fun r u => r = none ∧ Fr [f_queueEnd] [r_queue, r_queuedAt, r_queued] σ u ∧ CX u (qe + 2 + qsz ws) we ce I (Gq G c ws)) := by
  have v1 : vp_in x1 4 := by rw [e1]; exact vp_in_nI hc (by decide)
  have c1 : x1.toNatClampNeg = c := by rw [e1]; exact nI_clamp (by omega)
  have h1024 := har.2.1
  obtain ⟨-, -, ⟨eQ, -, -⟩, -⟩ := hX.1 c hc
  have eq := hX.2.1.1
  have ei : (Int16.ofInt 200).toInt32 * x1 + σ.2.2.1 r_queued x1.toNatClampNeg = nI (200 * c + (G c).length) := by rw [c1, eQ, e1]; exact nI_mul200 c _
  have vi : vp_in ((Int16.ofInt 200).toInt32 * x1 + σ.2.2.1 r_queued x1.toNatClampNeg) 800 := by rw [ei]; exact vp_in_nI (by omega) (by decide)
  have i1 : σ.1 f_queueEnd + Int32.ofInt 1 = nI (qe + 1) := by rw [eq]; exact nI_1 qe
  refine mjZ_y rfl rfl 36 _ _ _ _ ty ?_
  refine (And.intro rfl (And.intro (Nat.le_of_ble_eq_true rfl) (And.intro rfl (And.intro rfl (And.intro rfl (And.intro v1 (And.intro rfl (And.intro vi (fun ty' => (And.intro rfl (And.intro rfl (And.intro (Or.inl ⟨rfl, b8 _⟩) (And.intro (show vp_in (σ.1 f_queueEnd) 220000 by rw [eq]; exact vp_in_nI (by omega) (by decide)) (fun ty'' => (And.intro rfl (And.intro rfl (And.intro (Or.inl ⟨rfl, b8 _⟩) (And.intro (show vp_in (σ.1 f_queueEnd + Int32.ofInt 1) 220000 by rw [i1]; exact vp_in_nI (by omega) (by decide)) (fun ty''' => (And.intro (Nat.le_of_ble_eq_true rfl) ?_))))))))))))))))))))
  have go : ∀ u : mjS, mjTY u → Fr [] [r_queuedAt, r_queue] σ u → u.2.2.1 r_queuedAt = upd (σ.2.2.1 r_queuedAt) (200 * c + (G c).length) (nI qe) → u.2.2.1 r_queue = upd (upd (σ.2.2.1 r_queue) qe (nI ws.length >>> s8).toInt8.toInt32) (qe + 1) (nI ws.length).toInt8.toInt32 → mjY mjPP (mjQQ Y) d 151 36 [some (.ref 0), some (.int x1), some (.int (σ.1 f_queueEnd + Int32.ofInt 2)), some (.int (Int32.ofInt 0)), none] [] u (fun r u => r = none ∧ Fr [f_queueEnd] [r_queue, r_queuedAt, r_queued] σ u ∧ CX u (qe + 2 + qsz ws) we ce I (Gq G c ws)) := by
    intro u tu fu eA eR
    refine c_enq_loop _ hb hl x1 ws.length 0 u _ _ _ rfl (by omega) ?_ tu (har.fr fu (by decide) (by decide) (by decide) (by decide)) ?_ trivial (fun v x2 x3 l4 tv fv lo hQ e2 => ?_)
    · rw [eq, show Int32.ofInt 2 = nI 2 from rfl, nI_add]; rfl
    · unfold d2
      rw [eR, pk_un (show qe ≠ qe + 1 by omega), pk_us (f := σ.2.2.1 r_queue), pk_us (f := upd (σ.2.2.1 r_queue) qe (nI ws.length >>> s8).toInt8.toInt32)]
      exact b2 _ (by omega)
    have fuv : Fr [] [r_queuedAt, r_queue] σ v := fu.tr (fv.up (by decide) (by decide))
    refine mjZ_y rfl rfl 12 _ _ _ _ tv ?_
    refine (And.intro rfl (And.intro (Or.inl rfl) (fun tv' => (And.intro rfl (And.intro rfl (And.intro v1 (And.intro rfl (And.intro v1 (fun tv'' => And.intro rfl (And.intro rfl ?_))))))))))
    have fin : ∀ z : mjS, Fr [f_queueEnd] [r_queued] v z → z.1 f_queueEnd = nI (qe + 2 + qsz ws) → z.2.2.1 r_queued = upd (σ.2.2.1 r_queued) c (nI ((G c).length + 1)) → Fr [f_queueEnd] [r_queue, r_queuedAt, r_queued] σ z ∧ CX z (qe + 2 + qsz ws) we ce I (Gq G c ws) := by
      intro z fz ez eq2
      refine ⟨(fuv.up (by decide) (by decide)).tr (fz.up (by decide) (by decide)), ?_⟩
      have fa : Fr [f_queueEnd] [r_queue, r_queuedAt, r_queued] σ z := (fuv.up (by decide) (by decide)).tr (fz.up (by decide) (by decide))
      have er : ∀ k ∈ [r_opened, r_inSize, r_outSize, r_channels, r_channelAt, r_channelLen], z.2.2.1 k = σ.2.2.1 k := fun k hk => (fa.2.2 k ((by decide : ∀ k ∈ [r_opened, r_inSize, r_outSize, r_channels, r_channelAt, r_channelLen], k ∉ [r_queue, r_queuedAt, r_queued]) k hk)).1
      have erq : z.2.2.1 r_queue = v.2.2.1 r_queue := (fz.2.2 _ (by decide)).1
      have erA : z.2.2.1 r_queuedAt = upd (σ.2.2.1 r_queuedAt) (200 * c + (G c).length) (nI qe) := by rw [(fz.2.2 _ (by decide)).1, (fv.2.2 _ (by decide)).1, eA]
      have lo2 : ∀ j, j < qe → z.2.2.1 r_queue j = σ.2.2.1 r_queue j := fun j hj => by rw [erq, lo j hj, eR, pk_un (by omega), pk_un (by omega)]
      obtain ⟨a, b, cc, e⟩ := hX
      refine ⟨fun k hk => ?_, ⟨ez, hb⟩, by rw [fa.1 _ (by decide)]; exact cc, by rw [fa.1 _ (by decide)]; exact e⟩
      obtain ⟨a1, a2, ⟨a3, a4, a5⟩, a6⟩ := a k hk
      refine ⟨by rw [er r_opened (by decide), er r_inSize (by decide)]; exact a1, by unfold bnd; rw [er r_outSize (by decide)]; exact a2, ?_, by rw [er r_channels (by decide), er r_channelAt (by decide), er r_channelLen (by decide)]; exact a6⟩
      have old : ∀ i q, (G k)[i]? = some q → ∃ p : Nat, z.2.2.1 r_queuedAt (200 * k + i) = nI p ∧ p + 2 + qsz q ≤ qe + 2 + qsz ws ∧ QE (z.2.2.1 r_queue) p q := by
        intro i q hi
        obtain ⟨p, p1, p2, p3⟩ := a5 i q hi
        have hil := (List.getElem?_eq_some_iff.mp hi).1
        refine ⟨p, ?_, by omega, p3.fr lo2 p2⟩
        rw [erA, pk_un ?_]
        · exact p1
        · by_cases y : k = c
          · subst y; omega
          · omega
      unfold Gq
      by_cases y : k = c
      · subst y
        rw [if_pos rfl]
        refine ⟨by rw [eq2, List.length_append]; exact pk_us (f := σ.2.2.1 r_queued), by rw [List.length_append]; show _ + 1 ≤ _; omega, fun i q hi => ?_⟩
        by_cases y : i < (G k).length
        · rw [List.getElem?_append_left y] at hi; exact old i q hi
        · rw [List.getElem?_append_right (by omega)] at hi
          have hi0 : i - (G k).length = 0 := by have := (List.getElem?_eq_some_iff.mp hi).1; simp at this; omega
          rw [hi0] at hi
          have hq2 : q = ws := (Option.some.inj hi).symm
          subst hq2
          refine ⟨qe, ?_, Nat.le_refl _, by rw [erq]; exact hQ⟩
          rw [erA, show i = (G k).length by omega]; exact pk_us (f := σ.2.2.1 r_queuedAt)
      · rw [if_neg y]
        exact ⟨by rw [eq2, pk_un y]; exact a3, a4, old⟩
    refine ⟨rfl, fin _ ?_ ?_ ?_⟩
    · exact (Fr.i (k := f_queueEnd) (by decide)).tr (Fr.a (h := r_queued) (by decide))
    · rw [← e2]; exact pk_us (f := v.1) (k := f_queueEnd) (x := x2)
    · show mjIu v.2.2.1 r_queued x1.toNatClampNeg (v.2.2.1 r_queued x1.toNatClampNeg + Int32.ofInt 1) r_queued = _
      rw [mjIu_self, c1, (fuv.2.2 _ (by decide)).1, eQ]
      exact congrArg _ (nI_1 _)
  refine go _ ty''' (((Fr.a (h := r_queuedAt) (by decide)).tr (Fr.a (h := r_queue) (by decide))).tr (Fr.a (h := r_queue) (by decide))) ?_ ?_
  · show mjIu (mjIu (mjIu σ.2.2.1 r_queuedAt ((Int16.ofInt 200).toInt32 * x1 + σ.2.2.1 r_queued x1.toNatClampNeg).toNatClampNeg (σ.1 f_queueEnd)) r_queue (σ.1 f_queueEnd).toNatClampNeg (σ.1 f_words >>> s8).toInt8.toInt32) r_queue (σ.1 f_queueEnd + Int32.ofInt 1).toNatClampNeg (σ.1 f_words).toInt8.toInt32 r_queuedAt = _
    rw [mjIu_ne (by decide), mjIu_ne (by decide), mjIu_self, ei, eq, nI_clamp (by omega)]
  · show mjIu (mjIu (mjIu σ.2.2.1 r_queuedAt ((Int16.ofInt 200).toInt32 * x1 + σ.2.2.1 r_queued x1.toNatClampNeg).toNatClampNeg (σ.1 f_queueEnd)) r_queue (σ.1 f_queueEnd).toNatClampNeg (σ.1 f_words >>> s8).toInt8.toInt32) r_queue (σ.1 f_queueEnd + Int32.ofInt 1).toNatClampNeg (σ.1 f_words).toInt8.toInt32 r_queue = _
    rw [mjIu_self, mjIu_self, mjIu_ne (by decide), i1, har.1, eq, nI_clamp (by omega), nI_clamp (by omega)]
/-- a request is taken again -/
theorem ARr_0 {σ u : mjS} (e1 : u.1 f_words = nI 0) (e2 : u.1 f_reqSize = nI 0) : ARr u 0 [] := ⟨e1, by decide, e2, by decide, fun i w hw => by simp at hw⟩
abbrev dqF : List Nat := [f_words, f_reqSize]
set_option maxRecDepth 100000 in
theorem c_deq_loop (K : mjK) (n : Nat) (hn : n ≤ 1024) (x1 x3 : Int32) (e3 : x3 = nI n) : ∀ (r : Req) (q0 : Req) (p rs : Nat) (σ : mjS) (x2 x4 : Int32) (l5 : Option Value), x4 = nI q0.length → q0.length + r.length = n → x2 = nI p → p + qsz r ≤ 200000 → rs + sl r ≤ 131200 → mjTY σ → ARr σ rs q0 → QW (σ.2.2.1 r_queue) p r →
    (∀ u, mjTY u → Fr dqF awH σ u → ARr u (rs + sl r) (q0 ++ r) → K none u) →
    mjY mjPP (mjQQ Y) (d + 1) 152 30 [some (.ref 0), some (.int x1), some (.int x2), some (.int x3), some (.int x4), l5] [] σ K := by
  intro r
  induction r with
  | nil =>
    intro q0 p rs σ x2 x4 l5 e4 hq e2 hp hr ty har hQ hK
    have hq : q0.length = n := hq
    refine mjZ_y rfl rfl 3 _ _ _ _ ty ?_
    refine And.intro (fun q => ?_) (fun q => ?_)
    · refine mjZ_y rfl rfl 1 _ _ _ _ ty ?_
      refine And.intro rfl (And.intro rfl ?_)
      refine hK σ ty Fr.rf ?_
      rw [List.append_nil]; exact har
    · exact absurd (show x3 ≤ x4 by rw [e3, e4]; exact nI_le (by omega) (by omega)) q
  | cons w r ih =>
    intro q0 p rs σ x2 x4 l5 e4 hq e2 hp hr ty har hQ hK
    have hq : q0.length + (r.length + 1) = n := hq
    have hz : qsz (w :: r) = 3 + w.length + qsz r := rfl
    have hs : sl (w :: r) = w.length + sl r := rfl
    obtain ⟨k1, k2, k3⟩ := hQ
    refine mjZ_y rfl rfl 3 _ _ _ _ ty ?_
    refine And.intro (fun q => ?_) (fun q => ?_)
    · exact absurd (show x3 ≤ x4 from q) (by rw [e3, e4]; exact nI_ge (by omega) (by omega))
    have i1 : x2 + Int32.ofInt 1 = nI (p + 1) := by rw [e2]; exact nI_1 p
    have i2 : x2 + Int32.ofInt 2 = nI (p + 2) := by rw [e2, show Int32.ofInt 2 = nI 2 from rfl, nI_add]
    have i3 : x2 + Int32.ofInt 3 = nI (p + 3) := by rw [e2, show Int32.ofInt 3 = nI 3 from rfl, nI_add]
    have ed : ((σ.2.2.1 r_queue x2.toNatClampNeg &&& m8) <<< s16) ||| ((σ.2.2.1 r_queue (x2 + Int32.ofInt 1).toNatClampNeg &&& m8) <<< s8) ||| (σ.2.2.1 r_queue (x2 + Int32.ofInt 2).toNatClampNeg &&& m8) = nI w.length := by
      rw [i1, i2, e2, nI_clamp (by omega), nI_clamp (by omega), nI_clamp (by omega)]; exact k1
    have haw := c_addWord (Y := Y) (d := d) ty har (by omega) r_queue (p + 3) w.length rfl (by decide) (by decide) (by decide) (by show p + 3 + w.length ≤ 220000; omega) (by decide) (by omega)
    rw [k2] at haw
    rw [← i3, ← ed] at haw
    refine mjZ_y rfl rfl 37 _ _ _ _ ty ?_
    refine (And.intro rfl (And.intro (Or.inl rfl) (And.intro (show vp_in x2 220000 by rw [e2]; exact vp_in_nI (by omega) (by decide)) (And.intro rfl (And.intro (Or.inl rfl) (And.intro (show vp_in (x2 + Int32.ofInt 1) 220000 by rw [i1]; exact vp_in_nI (by omega) (by decide)) (And.intro rfl (And.intro (Or.inl rfl) (And.intro (show vp_in (x2 + Int32.ofInt 2) 220000 by rw [i2]; exact vp_in_nI (by omega) (by decide)) (And.intro (Nat.le_of_ble_eq_true rfl) (And.intro rfl (And.intro (Nat.le_of_ble_eq_true rfl) (And.intro rfl (And.intro (Nat.le_of_ble_eq_true rfl) (And.intro (Nat.le_of_ble_eq_true rfl) (mjY_mono ty (fun q_ u1 ty1 h_ => ?_) (haw)))))))))))))))))
    obtain ⟨rfl, f1, h1⟩ := h_
    intro _
    refine mjZ_y rfl rfl 8 _ _ _ _ ty1 ?_
    refine (And.intro (Nat.le_of_ble_eq_true rfl) ?_)
    refine ih (q0 ++ [w]) (p + 3 + w.length) (rs + w.length) u1 _ _ _ ?_ ?_ ?_ (by omega) (by omega) ty1 ?_ ?_ (fun u tu fu hu => hK u tu ((f1.up (by decide) (by decide)).tr fu) ?_)
    · rw [e4, List.length_append]; exact nI_1 _
    · rw [List.length_append]; show q0.length + 1 + r.length = n; omega
    · show x2 + (Int32.ofInt 3 + (((σ.2.2.1 r_queue x2.toNatClampNeg &&& m8) <<< s16) ||| ((σ.2.2.1 r_queue (x2 + Int32.ofInt 1).toNatClampNeg &&& m8) <<< s8) ||| (σ.2.2.1 r_queue (x2 + Int32.ofInt 2).toNatClampNeg &&& m8))) = _
      rw [ed, e2, show Int32.ofInt 3 = nI 3 from rfl, nI_add, nI_add]; exact congrArg nI (by omega)
    · exact h1
    · rw [(f1.2.2 _ (by decide)).1]; exact k3
    · rw [hs, show rs + (w.length + sl r) = rs + w.length + sl r by omega, show q0 ++ w :: r = q0 ++ [w] ++ r by simp]; exact hu
set_option maxRecDepth 100000 in
theorem c_dequeue {σ : mjS} (ty : mjTY σ) {p : Nat} {q : Req} (hp : p + 2 + qsz q ≤ 200000) (hn : q.length ≤ 1024) (hs : sl q ≤ 131200) (hQ : QE (σ.2.2.1 r_queue) p q) {x1 : Int32} (e1 : x1 = nI p) : mjY mjPP (mjQQ Y) (d + 1) 152 0 (mjL0 6 [.ref 0, .int x1]) [] σ (fun r u => r = none ∧ Fr dqF awH σ u ∧ AR u q) := by
  have i1 : x1 + Int32.ofInt 1 = nI (p + 1) := by rw [e1]; exact nI_1 p
  have ed : ((σ.2.2.1 r_queue x1.toNatClampNeg &&& m8) <<< s8) ||| (σ.2.2.1 r_queue (x1 + Int32.ofInt 1).toNatClampNeg &&& m8) = nI q.length := by
    rw [i1, e1, nI_clamp (by omega), nI_clamp (by omega)]; exact hQ.1
  refine mjZ_y rfl rfl 30 _ _ _ _ ty ?_
  refine (And.intro (Nat.le_of_ble_eq_true rfl) (And.intro rfl (And.intro (Or.inl rfl) (And.intro (show vp_in x1 220000 by rw [e1]; exact vp_in_nI (by omega) (by decide)) (And.intro rfl (And.intro (Or.inl rfl) (And.intro (show vp_in (x1 + Int32.ofInt 1) 220000 by rw [i1]; exact vp_in_nI (by omega) (by decide)) (And.intro (Nat.le_of_ble_eq_true rfl) (And.intro rfl (And.intro (Or.inl rfl) (fun ty' => (And.intro rfl (And.intro (Or.inl rfl) (fun ty'' => (And.intro (Nat.le_of_ble_eq_true rfl) ?_)))))))))))))))
  have go : ∀ u : mjS, mjTY u → u = (upd (upd σ.1 f_words 0) f_reqSize 0, σ.2) → mjY mjPP (mjQQ Y) (d + 1) 152 30 [some (.ref 0), some (.int x1), some (.int (x1 + Int32.ofInt 2)), some (.int (((σ.2.2.1 r_queue x1.toNatClampNeg &&& m8) <<< s8) ||| (σ.2.2.1 r_queue (x1 + Int32.ofInt 1).toNatClampNeg &&& m8))), some (.int (Int32.ofInt 0)), none] [] u (fun r u => r = none ∧ Fr dqF awH σ u ∧ AR u q) := by
    intro u tu eu
    have fu : Fr dqF awH σ u := by rw [eu]; exact (Fr.i (by decide)).tr (Fr.i (by decide))
    refine c_deq_loop _ q.length hn x1 _ ed q [] (p + 2) 0 u _ _ _ rfl (by simp) (by rw [e1, show Int32.ofInt 2 = nI 2 from rfl, nI_add]) (by omega) (by omega) tu (ARr_0 (σ := σ) ?_ ?_) (by rw [(fu.2.2 _ (by decide)).1]; exact hQ.2) (fun v tv fv hv => ⟨rfl, fu.tr fv, hv.ar⟩)
    · rw [eu]; show upd (upd σ.1 f_words 0) f_reqSize 0 f_words = _; rw [pk_un (by decide)]; exact pk_us (f := σ.1) (k := f_words) (x := 0)
    · rw [eu]; exact pk_us (f := upd σ.1 f_words 0) (k := f_reqSize) (x := 0)
  exact go _ ty'' rfl
end QUEUES
