/-! The world between requests: keys go, watchers are told, the log is written, with no request there. -/
def gdP (B : List (List Int32)) (σ : kS) (nm : List (List Int32)) (ks : List KC) : kK := fun r u => r = none ∧ KG B u nm ks ∧ Ch true drF drO σ u
def tcF : List (Nat × Nat) := [(12, 6), (21, 6), (30, 6), (39, 6)]
def gcP2 (B : List (List Int32)) (σ : kS) (nm : List (List Int32)) (ks : List KC) : kK := fun r u => r = none ∧ KG B u nm ks ∧ Ch false tcF [] σ u
def gjP (B : List (List Int32)) (b : Nat) (σ : kS) (nm : List (List Int32)) (ks : List KC) (l : List Int32) : kK := fun r u => r = none ∧ KG B u nm ks ∧ (kBY u b l ∧ u.1 b 3 = 0) ∧ Ch false (jnF b) [(b, 1)] σ u
section KGW
variable {Y : Nat → MethodName × ByteArray} {d : Nat} {σ u : kS} {B ws nm nm' : List (List Int32)} {ks ks' : List KC}
theorem KG.sto (ty : kTY σ) (g : KG B σ nm ks) {vs : Bool} {fs os : List (Nat × Nat)} (ch : Ch vs fs os σ u) (hf : ∀ p ∈ fs, p ∈ stKf) (ho : ∀ p ∈ os, p ∈ stKo) (ow : OWN u) (po : POT u) (st : STO u nm ks') : KG B u nm ks' := by
  obtain ⟨w2, w3, -, w6, w8, w9, w10⟩ := g
  have a1 : ∀ p ∈ stKf, ¬ p.1 = 48 ∧ ¬ p.1 = 71 ∧ p.1 = 59 := by decide +kernel
  have a2 : ∀ p ∈ stKo, p ∈ OWs ∧ ¬ p.1 = 48 ∧ ¬ p.1 = 71 ∧ p.1 = 59 := by decide +kernel
  have qb : ∀ b ∈ OWb, ¬ b = 59 := by decide
  have q : ∀ c ∈ CNs, c < 76 ∧ (kd0 c).1 = 1 ∧ ¬ (c, 9) ∈ stKf ∧ ¬ (c, 11) ∈ stKf := by decide +kernel
  refine ⟨⟨ow, po⟩, ⟨w3.1.fr ty w2.1 ch (fun p hp => (a1 p (hf p hp)).1) (fun p hp => ⟨(a2 p (ho p hp)).1, (a2 p (ho p hp)).2.1⟩), w3.2⟩, st, fun b hb => ?_, w8.fr ty w2.1 ch (fun p hp => (a1 p (hf p hp)).2.1) (fun p hp => ⟨(a2 p (ho p hp)).1, (a2 p (ho p hp)).2.2.1⟩), fun c hc => ?_, fun c hc => ?_⟩
  · obtain ⟨l', hl'⟩ := w6 b hb
    exact ⟨l', hl'.fr ty w2.1 hb ch (fun p hp => by rw [(a1 p (hf p hp)).2.2]; exact fun z => qb b hb z.symm) (fun p hp => ⟨(a2 p (ho p hp)).1, by rw [(a2 p (ho p hp)).2.2.2]; exact fun z => qb b hb z.symm⟩)⟩
  · obtain ⟨n, hn, e⟩ := w9 c hc
    exact ⟨n, hn, by rw [(ch.fld ty (q c hc).1 (q c hc).2.1 (by decide) (fun z => (q c hc).2.2.1 (hf _ z))).1]; exact e⟩
  · obtain ⟨n, hn, e⟩ := w10 c hc
    exact ⟨n, hn, by rw [(ch.fld ty (q c hc).1 (q c hc).2.1 (by decide) (fun z => (q c hc).2.2.2 (hf _ z))).1]; exact e⟩
theorem KG.gj (ty : kTY σ) (g : KG B σ nm ks) {b : Nat} (hb : b ∈ [5, 7]) {l w : List Int32} (j2 : σ.1 b 3 = 0) {r : Option Value} (h : opP σ b l w r u) (hl : l.length + w.length ≤ 210000) : gjP B b σ nm ks (l ++ w) r u := by
  obtain ⟨b1, b2, b3, -, -⟩ := J_ok b hb
  obtain ⟨h0, ch, ow, po, l', h1, h2⟩ := h
  obtain ⟨e1, e2⟩ := h2 j2 (by rw [b2]; omega)
  rw [e1] at h1
  exact ⟨h0, (g.by_ ty b1 ch ow po h1).1, ⟨h1, e2⟩, ch⟩
theorem gjP.tr {b : Nat} {u0 : kS} {l : List Int32} {r : Option Value} (ts : kTY σ) (hb : b ∈ [5, 7]) (h : gjP B b u0 nm ks l r u) (c : Ch false (jnF b) [(b, 1)] σ u0) : gjP B b σ nm ks l r u := ⟨h.1, h.2.1, h.2.2.1, Ch.tr ts (fun q hq => by rw [List.mem_singleton.mp hq]; exact ow_b (J_ok b hb).1) c h.2.2.2⟩
theorem g_head (ty : kTY σ) (g : KG B σ nm ks) {b : Nat} (hb : b ∈ [5, 7]) {l : List Int32} (j : kBY σ b l ∧ σ.1 b 3 = 0) {n : Nat} (hn : n ≤ 1024) (hl : l.length + 40 ≤ 210000) (x : Int32) (ex : x = nI n) : kjY kPP (kQQ Y) (d + 5) 60 0 (mjL0 2 [.ref b, .int x]) [] σ (gjP B b σ nm ks (l ++ (42 :: dec (lN n) ++ [13, 10]))) := by
  have hd := dec_len (lN n)
  refine kjY_mono ty (fun r z _ _ h => g.gj ty hb j.2 h ?_) (k_rowHead ty g.1.1 (J_ok b hb).1 j.1 x ex (by omega) (opQ_j hb g.1.2 l (by omega)))
  rw [List.length_append, List.length_cons, List.length_cons, List.length_cons, List.length_nil]; omega
theorem g_text (ty : kTY σ) (g : KG B σ nm ks) {b : Nat} (hb : b ∈ [5, 7]) {l : List Int32} (j : kBY σ b l ∧ σ.1 b 3 = 0) {i : Nat} (hi : i < 185) (hl : l.length + (wordL (tb i)).length ≤ 210000) : kjY kPP (kQQ Y) (d + 6) 51 0 (mjL0 4 [.ref b, .ref (2000000 + i)]) [] σ (gjP B b σ nm ks (l ++ wordL (tb i))) :=
  kjY_mono ty (fun r z _ _ h => g.gj ty hb j.2 h hl) (k_text ty g.1.1 (J_ok b hb).1 j.1 hi (opQ_j hb g.1.2 l hl))
theorem g_num (ty : kTY σ) (g : KG B σ nm ks) {b : Nat} (hb : b ∈ [5, 7]) {l : List Int32} (j : kBY σ b l ∧ σ.1 b 3 = 0) (v : Int64) (hl : l.length + (wordL (dec v)).length ≤ 210000) : kjY kPP (kQQ Y) (d + 4) 52 0 (mjL0 5 [.ref b, .long v]) [] σ (gjP B b σ nm ks (l ++ wordL (dec v))) :=
  kjY_mono ty (fun r z _ _ h => g.gj ty hb j.2 h hl) (k_numberWord ty g.1.1 (J_ok b hb).1 j.1 v (opQ_j hb g.1.2 l hl))
theorem g_word (ty : kTY σ) (g : KG B σ nm ks) {b : Nat} (hb : b ∈ [5, 7]) {l : List Int32} (j : kBY σ b l ∧ σ.1 b 3 = 0) {i : Nat} {w : List Int32} (hw : nm[i]? = some w) (x : Int32) (ex : x = nI i) (hl : l.length + (wordL w).length ≤ 210000) : kjY kPP (kQQ Y) (d + 5) 80 0 (mjL0 3 [.ref 48, .int x, .ref b]) [] σ (gjP B b σ nm ks (l ++ wordL w)) :=
  kjY_mono ty (fun r z _ _ h => g.gj ty hb j.2 h hl) (k_copyWord ty g.1.1 g.2.1.1 (J_ok b hb).1 j.1 hw x ex (opQ_j hb g.1.2 l hl))
/-- a key goes -/
theorem kG_dropAt (ty : kTY σ) {P Q : List KC} {y : KC} (w : KG B σ nm (P ++ y :: Q)) (x1 : Int32) (e1 : x1 = nI P.length) : kjY kPP (kQQ Y) (d + 2) 136 0 (mjL0 3 [.ref 59, .int x1]) [] σ (gdP B σ nm (P ++ Q)) := by
  obtain ⟨fr, vs, hR, hV⟩ := w.2.2.1
  have ow := w.1.1
  have po := w.1.2
  have hnd := hR.nd
  obtain ⟨r0, a1, a2, a3, a4, a5, a6⟩ := hV.1 y (List.mem_append_right _ List.mem_cons_self)
  obtain ⟨v0, k0, n0, w0, c0, e0, t0, cs0⟩ := r0
  have a2 : v0 = y.1 := a2
  have a4 : c0 = y.2.2.2.2.1 := a4
  have a5e : e0 = endE y.2.2.2.2.2 := a5.2.2.1
  have hmapl : ((P ++ y :: Q).map (fun x => x.2.2.1)).length = ((P ++ y :: Q).map (fun x => x.2.1)).length := by rw [List.length_map, List.length_map]
  have hlP : P.length < (P ++ y :: Q).length := by rw [List.length_append, List.length_cons]; omega
  have hb : (P ++ y :: Q).length < 2 ^ 30 := by
    obtain ⟨ri, rs, rh, NK, rt, NT, rn, Nn, te, rc, NC, rm, Nm, ce, ls, hG⟩ := hR
    obtain ⟨b1, b2, b3, b4, b5⟩ := hG.2.2.2.1.1
    rw [List.length_map] at b3; omega
  have hsp : ((P ++ y :: Q).map (fun x => x.2.2.1))[P.length]? = some y.2.2.1 := by
    rw [List.getElem?_map, List.getElem?_append_right (Nat.le_refl _), Nat.sub_self]; rfl
  have kv : (σ.2.2.2.1 v0).1 = 11 := by
    obtain ⟨ri, rs, rh, NK, rt, NT, rn, Nn, te, rc, NC, rm, Nm, ce, ls, hG⟩ := hR
    obtain ⟨l, hl, hV0, -⟩ := hG.v a1
    rw [hV0.1.1]
  refine kjZ_y rfl rfl 3 _ _ _ _ ty ?_
  refine (And.intro (Nat.le_of_ble_eq_true rfl) (And.intro (Or.inl ⟨(Nat.le_of_ble_eq_true rfl), (ty.k (by decide) rfl)⟩) (And.intro (Nat.le_of_ble_eq_true rfl) (And.intro (Nat.le_of_ble_eq_true rfl) (kjY_mono ty (fun q_ u1 ty1 xu1 h_ => ?_) (k_valueAt ty hR x1))))))
  obtain ⟨rfl, q⟩ := h_
  intro _ _
  rcases q with ⟨rfl, q⟩ | ⟨i, s, r, q1, q2, q3, q4, rfl⟩
  · exfalso
    have := q P.length e1
    rw [List.length_map] at this; omega
  have hi : P.length = i := (nI_eq (by omega) (by rw [List.length_map] at q2; omega)).mp (e1.symm.trans q1)
  rw [← hi, List.getElem?_append_left (by rw [List.length_map]; exact hlP), hsp] at q3
  cases q3
  rw [a1] at q4; cases q4
  refine kjZ_y rfl rfl 3 _ _ _ _ ty1 ?_
  refine (And.intro (Nat.le_of_ble_eq_true rfl) ?_)
  refine kjZ_y rfl rfl 3 _ _ _ _ ty1 ?_
  refine (And.intro (Nat.le_of_ble_eq_true rfl) (And.intro (Or.inl ⟨(Nat.le_of_ble_eq_true rfl), (ty1.k (by decide) rfl)⟩) (And.intro (Nat.le_of_ble_eq_true rfl) (And.intro (Nat.le_of_ble_eq_true rfl) (kjY_mono ty1 (fun q_ u2 ty2 xu2 h_ => ?_) (k_leave ty1 ow po hR hmapl hsp x1 e1))))))
  obtain ⟨rfl, p1, p2, p3, p4⟩ := h_
  intro _ _
  have kv2 : (u2.2.2.2.1 v0).1 = 11 := xu2.k ty1 kv (by decide)
  refine kjZ_y rfl rfl 4 _ _ _ _ ty2 ?_
  refine (And.intro (Nat.le_of_ble_eq_true rfl) (And.intro (Or.inl ⟨(Nat.le_of_ble_eq_true rfl), (ty2.k (by decide) rfl)⟩) (And.intro (Nat.le_of_ble_eq_true rfl) (And.intro (Nat.le_of_ble_eq_true rfl) (kjY_mono ty2 (fun q_ u3 ty3 xu3 h_ => ?_) (k_setEnds ty2 p2 p3 p1 a1 _))))))
  obtain ⟨rfl, p5, p6, p7, p8⟩ := h_
  intro _ _
  have kv3 : (u3.2.2.2.1 v0).1 = 11 := xu3.k ty2 kv2 (by decide)
  have hsl := (List.getElem?_eq_some_iff.mp a1).1
  have a1' : (vs.set y.2.2.1 (v0, k0, n0, w0, c0, NEV, t0, cs0))[y.2.2.1]? = some (v0, k0, n0, w0, c0, NEV, t0, cs0) := by rw [List.getElem?_set, if_pos rfl, if_pos hsl]
  refine kjZ_y rfl rfl 2 _ _ _ _ ty3 ?_
  refine (And.intro (Nat.le_of_ble_eq_true rfl) (And.intro (Or.inl ⟨(Nat.le_of_ble_eq_true rfl), (by assumption)⟩) (And.intro (Nat.le_of_ble_eq_true rfl) (And.intro (Nat.le_of_ble_eq_true rfl) (kjY_mono ty3 (fun q_ u4 ty4 xu4 h_ => ?_) (k_clear ty3 p6 p7 p5 a1'))))))
  obtain ⟨rfl, p9, p10, p11, p12⟩ := h_
  intro _ _
  rw [List.set_set] at p9
  have kv4 : (u4.2.2.2.1 v0).1 = 11 := xu4.k ty3 kv3 (by decide)
  have a1'' : (vs.set y.2.2.1 (v0, k0, 0, w0, c0, NEV, [], flC k0))[y.2.2.1]? = some (v0, k0, 0, w0, c0, NEV, [], flC k0) := by rw [List.getElem?_set, if_pos rfl, if_pos hsl]
  obtain ⟨ri, rs, rh, NK, rt, NT, rn, Nn, te, rc, NC, rm, Nm, ce, ls, hG⟩ := p9
  obtain ⟨l, hl, hV4, -⟩ := hG.v a1''
  have hd4 : u4.2.2.2.1 v0 = (11, 0) := hV4.1.1
  have c5 : u4.1 v0 5 = c0 := hV4.1.2.2.2.2.2.2
  have w4 : u4.1 v0 4 = w0 := hV4.1.2.2.2.2.2.1
  have e3 : u4.2.1 v0 3 = NEV := hV4.1.2.2.2.2.1
  have n59 : ¬ 59 = v0 := k11 ty4 hd4 (by decide)
  have h14 := hG.2.2.2.2.2.1
  have h15 := hG.2.2.2.2.2.2
  refine kjZ_y rfl rfl 11 _ _ _ _ ty4 ?_
  refine (And.intro (ty4.k (by decide) rfl) (And.intro (by assumption) (And.intro (ty4.k (by decide) rfl) (And.intro (Or.inl rfl) (fun ty4' => (And.intro (by assumption) (And.intro (Or.inl rfl) (fun ty4'' => And.intro rfl (And.intro rfl ?_)))))))))
  have go : ∀ z, z = (mjIu (mjIu u4.1 59 14 (u4.1 59 14 - u4.1 v0 5)) v0 5 (Int32.ofInt 0), u4.2) → gdP B u1 nm (P ++ Q) none z := by
    intro z ez
    rw [h14, c5] at ez
    have eI : ∀ h x, z.1 h x = if h = v0 ∧ x = 5 then 0 else if h = 59 ∧ x = 14 then cSum (P ++ y :: Q) - c0 else u4.1 h x := fun h x => by
      rw [ez]; show mjIu (mjIu u4.1 59 14 _) v0 5 _ h x = _
      rw [mjIu_at, mjIu_at]; rfl
    have st : Vsu v0 rc u4 z := by
      refine ⟨by rw [ez], fun h x z1 z2 => ?_, fun h x _ _ => by rw [ez]⟩
      rw [eI, if_neg (fun q => z1 q.1), if_neg (fun q => z2 ⟨q.1, Or.inl q.2⟩)]
    obtain ⟨m1, m2, m3, m4⟩ := hG.upw (u := z) (w' := w0) (c' := 0) (e' := NEV) ty4 p10 p11 a1'' st (fun x z4 z5 => by rw [eI, if_neg (fun q => z5 q.2), if_neg (fun q => n59 q.1.symm)]) (by rw [eI, if_neg (fun q => absurd q.2 (by decide)), if_neg (fun q => n59 q.1.symm)]; exact w4) (by rw [eI, if_pos ⟨rfl, rfl⟩]) (by rw [ez]; exact e3) (by rw [ez])
    rw [List.set_set] at m1
    rw [eI 59 14, eI 59 15, if_neg (fun q => n59 q.1), if_pos ⟨rfl, rfl⟩, if_neg (fun q => n59 q.1), if_neg (fun q => absurd q.2 (by decide)), h15] at m1
    have up1 : ∀ {fs os : List (Nat × Nat)} {y z : kS} {b : Bool}, Ch b fs os y z → (∀ p ∈ fs, p ∈ drF) → (∀ p ∈ os, p ∈ drO) → Ch true drF drO y z := fun hc h1 h2 => hc.up (fun _ => rfl) h1 h2
    have ch : Ch true drF drO u1 z := Ch.tr ty1 (by decide) (Ch.tr ty1 (by decide) (Ch.tr ty1 (by decide) (up1 p4 (by decide) (by decide)) (up1 p8 (by decide) (by decide))) (up1 p12 (by decide) (by decide))) (up1 m4 (by decide) (by decide))
    have eil : cutL ((P ++ y :: Q).map (fun x => x.2.1)) P.length 1 = (P ++ Q).map (fun x => x.2.1) := by
      unfold cutL
      rw [List.map_append, List.map_cons, List.take_append_of_le_length (by rw [List.length_map]; exact Nat.le_refl _), List.take_of_length_le (by rw [List.length_map]; exact Nat.le_refl _), List.drop_append, List.drop_eq_nil_of_le (by rw [List.length_map]; omega), List.length_map, show P.length + 1 - P.length = 1 by omega, List.map_append]; rfl
    have esl : cutL ((P ++ y :: Q).map (fun x => x.2.2.1)) P.length 1 = (P ++ Q).map (fun x => x.2.2.1) := by
      unfold cutL
      rw [List.map_append, List.map_cons, List.take_append_of_le_length (by rw [List.length_map]; exact Nat.le_refl _), List.take_of_length_le (by rw [List.length_map]; exact Nat.le_refl _), List.drop_append, List.drop_eq_nil_of_le (by rw [List.length_map]; omega), List.length_map, show P.length + 1 - P.length = 1 by omega, List.map_append]; rfl
    refine ⟨rfl, w.sto ty1 ch (by decide) (by decide) m2 m3 ⟨y.2.2.1 :: fr, vs.set y.2.2.1 (v0, k0, 0, w0, 0, NEV, [], flC k0), ?_, ?_⟩, ch⟩
    · rw [← eil, ← esl]
      have ec : cSum (P ++ Q) = cSum (P ++ y :: Q) - c0 := by
        rw [cSum_app, cSum_app, a4]; exact (i32_sub_mid _ _ _).symm
      have et : tSum (P ++ Q) = tSum (P ++ y :: Q) + (nvI NEV - nvI e0) := by
        rw [tSum_app, tSum_app, a5e, show nvI NEV = 0 from rfl, Int32.zero_sub, ← Int32.sub_eq_add_neg]; exact (i32_sub_mid _ _ _).symm
      rw [ec, et]; exact m1
    · obtain ⟨g1, g2, g3⟩ := hV
      obtain ⟨n1, n2, n3⟩ := kslot_ne hnd
      have old : ∀ {s : Nat} {q : VR}, ¬ s = y.2.2.1 → vs[s]? = some q → (vs.set y.2.2.1 (v0, k0, 0, w0, 0, NEV, [], flC k0))[s]? = some q := fun z e => by rw [List.getElem?_set, if_neg (fun y => z y.symm)]; exact e
      refine ⟨fun x hx => ?_, fun s hs => ?_, SRN_cut g3⟩
      · rcases List.mem_append.mp hx with z | z
        · obtain ⟨r, c1, c2⟩ := g1 x (List.mem_append_left _ z)
          exact ⟨r, old (n1 x z) c1, c2⟩
        · obtain ⟨r, c1, c2⟩ := g1 x (List.mem_append_right _ (List.mem_cons_of_mem _ z))
          exact ⟨r, old (n2 x z) c1, c2⟩
      · rcases List.mem_cons.mp hs with z | z
        · rw [z]
          exact ⟨_, by rw [List.getElem?_set, if_pos rfl, if_pos hsl], rfl, rfl, rfl, rfl⟩
        · obtain ⟨r, c1, c2⟩ := g2 s z
          exact ⟨r, old (n3 s z) c1, c2⟩
  exact go _ rfl
/-- a watcher is told -/
theorem kG_touched_l (ty : kTY σ) (w : KG B σ nm ks) {c n : Nat} (hc : c ∈ [12, 21, 30, 39]) (hn : n ≤ 64) (x1 : Int32) : ∀ (f i : Nat) (x2 : Int32) (u : kS), i + f = n → x2 = nI i → kTY u → KG B u nm ks → u.1 c 9 = nI n → Ch false tcF [] σ u →
    kjY kPP (kQQ Y) d 69 2 [some (.ref c), some (.int x1), some (.int x2)] [] u (gcP2 B σ nm ks) := by
  have q : ∀ c ∈ [12, 21, 30, 39], c < 76 ∧ (kd0 c).1 = 1 ∧ (c, 6) ∈ ouF ∧ c + 7 < 76 ∧ kd0 (c + 7) = (20, 64) ∧ (c, 6) ∈ tcF := by decide +kernel
  obtain ⟨q1, q2, q3, q4, q5, q6⟩ := q c hc
  intro f
  induction f with
  | zero =>
    intro i x2 u hi e2 tu wu e9 su
    have kc : (u.2.2.2.1 c).1 = 1 := tu.k q1 q2
    refine kjZ_y rfl rfl 4 _ _ _ _ tu ?_
    refine (And.intro (by assumption) (And.intro (fun o => ?_) (fun o => ?_)))
    · refine kjZ_y rfl rfl 1 _ _ _ _ tu ?_
      refine And.intro rfl (And.intro rfl ?_)
      exact ⟨rfl, wu, su⟩
    · refine absurd (show u.1 c 9 ≤ x2 from ?_) o
      rw [e9, e2, nle (by omega) (by omega)]; omega
  | succ f ih =>
    intro i x2 u hi e2 tu wu e9 su
    have kc : (u.2.2.2.1 c).1 = 1 := tu.k q1 q2
    have v2 : vp_in x2 64 := by rw [e2]; exact vp_in_nI (by omega) (by decide)
    have kd : u.2.2.2.1 (c + 7) = (20, 64) := tu.kl q4 q5
    have fin : ∀ y : Int32, (y = 0 ∨ y = 1) → kjY kPP (kQQ Y) d 69 18 [some (.ref c), some (.int x1), some (.int x2)] [.int y, .int (u.1 c 6), .ref c] u (gcP2 B σ nm ks) := by
      intro y hy
      have hb := tu.1 c 6 (by rw [kc]; decide) (by rw [kc]; rfl)
      have hor : u.1 c 6 ||| y = 0 ∨ u.1 c 6 ||| y = 1 := by
        rcases hb with z | z <;> rcases hy with y | y <;> rw [z, y] <;> decide
      refine kjZ_y rfl rfl 4 _ _ _ _ tu ?_
      refine (And.intro (by assumption) (And.intro (Or.inr ⟨rfl, hor⟩) (fun tu' => ?_)))
      have go : ∀ v, kTY v → v = (mjIu u.1 c 6 (u.1 c 6 ||| y), u.2) → kjY kPP (kQQ Y) d 69 2 [some (.ref c), some (.int x1), some (.int (x2 + Int32.ofInt 1))] [] v (gcP2 B σ nm ks) := by
        intro v tv ev
        refine ih (i + 1) _ v (by omega) (by rw [e2]; exact nI_1 i) tv (by rw [ev]; exact wu.pi tu q3) ?_ (Ch.tr ty (by decide) su (by rw [ev]; exact (Ch_i (by rw [kc]; decide)).up (fun z => z) (fun p hp => by rw [List.mem_singleton.mp hp]; exact q6) (fun p hp => hp)))
        rw [ev]; show mjIu u.1 c 6 _ c 9 = _
        rw [mjIu_q (by decide)]; exact e9
      exact go _ tu' rfl
    refine kjZ_y rfl rfl 4 _ _ _ _ tu ?_
    refine (And.intro (by assumption) (And.intro (fun o => ?_) (fun o => ?_)))
    · refine absurd (show u.1 c 9 ≤ x2 from o) ?_
      rw [e9, e2, nle (by omega) (by omega)]; omega
    refine kjZ_y rfl rfl 9 _ _ _ _ tu ?_
    refine (And.intro (by assumption) (And.intro (by assumption) (Or.inl (And.intro (kdk kd) (And.intro (kdv kd v2) (And.intro (fun o2 => ?_) (fun o2 => ?_)))))))
    · refine kjZ_y rfl rfl 1 _ _ _ _ tu ?_
      exact fin _ (Or.inl rfl)
    · refine kjZ_y rfl rfl 2 _ _ _ _ tu ?_
      exact fin _ (Or.inr rfl)
theorem kG_touched (ty : kTY σ) (w : KG B σ nm ks) {c : Nat} (hc : c ∈ [12, 21, 30, 39]) (x1 : Int32) : kjY kPP (kQQ Y) d 69 0 (mjL0 3 [.ref c, .int x1]) [] σ (gcP2 B σ nm ks) := by
  obtain ⟨n, hn, e9⟩ := w.2.2.2.2.2.1 c hc
  refine kjZ_y rfl rfl 2 _ _ _ _ ty ?_
  refine (And.intro (Nat.le_of_ble_eq_true rfl) ?_)
  exact kG_touched_l ty w hc hn x1 n 0 _ σ (by omega) rfl ty w e9 Ch.rf
theorem kG_touch_l (ty : kTY σ) (x1 : Int32) : ∀ (f i : Nat) (x4 : Int32) (o5 : Option Value) (u : kS), i + f = 4 → x4 = nI i → kTY u → KG B u nm ks → Ch false tcF [] σ u →
    kjY kPP (kQQ Y) (d + 1) 139 8 [some (.ref 59), some (.int x1), some (.ref 11), some (.int (nI 4)), some (.int x4), o5] [] u (gcP2 B σ nm ks) := by
  intro f
  induction f with
  | zero =>
    intro i x4 o5 u hi e4 tu wu su
    refine kjZ_y rfl rfl 3 _ _ _ _ tu ?_
    refine And.intro (fun c => ?_) (fun c => ?_)
    · refine kjZ_y rfl rfl 1 _ _ _ _ tu ?_
      refine And.intro rfl (And.intro rfl ?_)
      exact ⟨rfl, wu, su⟩
    · refine absurd (show nI 4 ≤ x4 from ?_) c
      rw [e4, nle (by omega) (by omega)]; omega
  | succ f ih =>
    intro i x4 o5 u hi e4 tu wu su
    have v4 : vp_in x4 4 := by rw [e4]; exact vp_in_nI (by omega) (by decide)
    have c4 : x4.toNatClampNeg = i := by rw [e4]; exact nI_clamp (by omega)
    have ef : u.2.2.1 11 x4.toNatClampNeg = some (12 + 9 * i) := by rw [c4]; exact tu.2.2.2.2.2.2.2.2.2 i (by omega)
    have hc : 12 + 9 * i ∈ [12, 21, 30, 39] := by
      have : i = 0 ∨ i = 1 ∨ i = 2 ∨ i = 3 := by omega
      rcases this with z | z | z | z <;> rw [z] <;> decide
    have kc : (u.2.2.2.1 (12 + 9 * i)).1 = 1 := by
      have q : ∀ c ∈ [12, 21, 30, 39], c < 76 ∧ (kd0 c).1 = 1 := by decide +kernel
      exact tu.k (q _ hc).1 (q _ hc).2
    refine kjZ_y rfl rfl 3 _ _ _ _ tu ?_
    refine And.intro (fun c => ?_) (fun c => ?_)
    · refine absurd (show nI 4 ≤ x4 from c) ?_
      rw [e4, nle (by omega) (by omega)]; omega
    refine kjZ_y rfl rfl 7 _ _ _ _ tu ?_
    refine (Or.inl (And.intro (Or.inl (tu.k (by decide) rfl)) (And.intro (kdw tu (by decide) rfl v4) (Exists.intro _ (And.intro ef (And.intro (Nat.le_of_ble_eq_true rfl) (And.intro (Nat.le_of_ble_eq_true rfl) (And.intro (Or.inl ⟨(Nat.le_of_ble_eq_true rfl), (by assumption)⟩) (And.intro (Nat.le_of_ble_eq_true rfl) (And.intro (Nat.le_of_ble_eq_true rfl) (kjY_mono tu (fun q_ u1 ty1 xu1 h_ => ?_) (kG_touched tu wu hc x1))))))))))))
    obtain ⟨rfl, w1, s1⟩ := h_
    intro _ _
    refine kjZ_y rfl rfl 2 _ _ _ _ ty1 ?_
    exact ih (i + 1) _ _ u1 (by omega) (by rw [e4]; exact nI_1 i) ty1 w1 (Ch.tr ty (by decide) su s1)
theorem kG_touch (ty : kTY σ) (w : KG B σ nm ks) (x1 : Int32) : kjY kPP (kQQ Y) (d + 1) 139 0 (mjL0 6 [.ref 59, .int x1]) [] σ (gcP2 B σ nm ks) := by
  refine kjZ_y rfl rfl 8 _ _ _ _ ty ?_
  refine (And.intro (ty.k (by decide) rfl) (And.intro (Nat.le_of_ble_eq_true rfl) (Or.inl (And.intro (kdr ty (by decide) rfl) (And.intro (Nat.le_of_ble_eq_true rfl) (And.intro (Nat.le_of_ble_eq_true rfl) ?_))))))
  have e : nI (σ.2.2.2.1 11).2 = nI 4 := by rw [ty.kl (h := 11) (c := (24, 4)) (by decide) rfl]
  have k := kG_touch_l (Y := Y) (d := d) (σ := σ) ty x1 4 0 (Int32.ofInt 0) none σ rfl rfl ty w Ch.rf
  rw [← e] at k
  exact k
end KGW
