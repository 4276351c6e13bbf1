/-! What is due behind a request: whole. -/
section KFINISH2
variable {Y : Nat → MethodName × ByteArray} {d : Nat} {σ u : kS} {B ws nmm nmm' : List (List Int32)} {ks ks' : List KC}
theorem fn_5 : ∀ b ∈ [5, 7], ∀ c ∈ CNs, ¬ b = c + 1 ∧ (∀ bk ∈ payB, ¬ b = bk) ∧ ¬ (0, 10) ∈ jnF b ∧ ¬ (0, 13) ∈ jnF b ∧ ¬ (0, 17) ∈ jnF b ∧ ¬ (c, 3) ∈ jnF b := by decide +kernel
theorem fn_6 : ¬ (0, 10) ∈ kcF ∧ ¬ (0, 13) ∈ kcF ∧ ¬ (0, 14) ∈ kcF ∧ ¬ (0, 17) ∈ kcF := by decide +kernel
theorem fn_7a : ∀ c ∈ CNs, ¬ (c, 3) ∈ kcF := by decide +kernel
theorem fn_7b : ∀ c ∈ CNs, ∀ b ∈ [5, 7], ¬ (c, 3) ∈ buF b := by decide +kernel
theorem fn_7c : ∀ b ∈ [5, 7], ¬ b = 0 := by decide
theorem fn_7 (b : Nat) (hb : b ∈ [5, 7]) (c : Nat) (hc : c ∈ CNs) : ¬ (c, 3) ∈ kcF ∧ ¬ (c, 3) ∈ buF b ∧ ¬ b = 0 ∧ ¬ (0, 17) ∈ opF ∧ ¬ (0, 13) ∈ opF := ⟨fn_7a c hc, fn_7b c hc b hb, fn_7c b hb, ha_0.1, ha_0.2.1⟩
theorem fn_4 (b : Nat) (hb : b ∈ [5, 7]) (c : Nat) (hc : c ∈ CNs) : ¬ b = c + 1 ∧ (∀ bk ∈ payB, ¬ b = bk) ∧ ¬ (0, 10) ∈ jnF b ∧ ¬ (0, 13) ∈ jnF b ∧ ¬ (0, 17) ∈ jnF b ∧ ¬ (c, 3) ∈ jnF b ∧ ¬ (0, 10) ∈ kcF ∧ ¬ (0, 13) ∈ kcF ∧ ¬ (0, 14) ∈ kcF ∧ ¬ (0, 17) ∈ kcF ∧ ¬ (c, 3) ∈ kcF ∧ ¬ (c, 3) ∈ buF b ∧ ¬ b = 0 ∧ ¬ (0, 17) ∈ opF ∧ ¬ (0, 13) ∈ opF := by
  obtain ⟨a1, a2, a3, a4, a5, a6⟩ := fn_5 b hb c hc
  obtain ⟨c1, c2, c3, c4⟩ := fn_6
  exact ⟨a1, a2, a3, a4, a5, a6, c1, c2, c3, c4, fn_7 b hb c hc⟩
theorem kx_finish_t {c b : Nat} (hc : c ∈ CNs) (hb : b ∈ [5, 7]) (ts : kTY σ) (hj : BLJ σ) {n : Nat} (x2 : Int32) (e2 : x2 = nI n) {L : List Int32} (tu : kTY u) (gu : KG B u nmm ks) (ju : kBY u b L ∧ u.1 b 3 = 0) (hn : n ≤ L.length) (cu : Ch true (fnF b) (fnO b) σ u) (fu : FN0 σ u) (f10 : u.2.2.1 0 10 = some b) (f17 : u.1 0 17 = σ.1 0 17) :
    kjY kPP (kQQ Y) (d + 8) 28 17 [some (.ref 0), some (.ref c), some (.int x2)] [] u (fnP B c b σ nmm ks L n) := by
  obtain ⟨b1, b2, b3, b4, b5⟩ := J_ok b hb
  obtain ⟨q1, q2, q3, q4, q5, -⟩ := CN_ok c hc
  obtain ⟨m1, m2, -, -, -, -, -, -, -, -, -, m12, -, m14, m15⟩ := fn_4 b hb c hc
  obtain ⟨i1, i2, i3, i4⟩ := fn_1 b hb
  obtain ⟨o1, o2, o3, o4⟩ := fn_2 b hb
  have k1 : (u.2.2.2.1 c).1 = 1 := tu.k q1 q2
  have bju : BLJ u := ⟨fun c hc => by rw [fu.2.2 c hc]; exact hj.1 c hc, fun c hc c' hc' z => hj.2 c hc c' hc' (by rw [fu.2.2 c hc, fu.2.2 c' hc'] at z; exact z)⟩
  refine kjZ_y rfl rfl 3 _ _ _ _ tu ?_
  refine (And.intro (tu.k (by decide) rfl) (And.intro (Or.inr ⟨rfl, Or.inl rfl⟩) (fun tu' => ?_)))
  have go : ∀ v, kTY v → v = (mjIu u.1 0 13 (Int32.ofInt 0), u.2) → kjY kPP (kQQ Y) (d + 8) 28 20 [some (.ref 0), some (.ref c), some (.int x2)] [] v (fnP B c b σ nmm ks L n) := by
    intro v tv ev
    obtain ⟨gv, ov⟩ := gu.pi2 tu (h := 0) (x := 13) (by decide) ev
    have fv : FN0 σ v := fu.tr (FN0.i0 tu gu (by decide) ev)
    have cv : Ch true (fnF b) (fnO b) σ v := Ch.tr ts o4 cu (by rw [ev]; exact (Ch_i (by rw [tu.k (h := 0) (c := 9) (by decide) rfl]; decide)).up (fun z => z) (fun p hp => by rw [List.mem_singleton.mp hp]; exact List.mem_cons_self) (fun p hp => by cases hp))
    have jv : kBY v b L ∧ v.1 b 3 = 0 := ⟨ov b b1 _ ju.1, by rw [ev]; show mjIu u.1 0 13 (Int32.ofInt 0) b 3 = _; rw [mjIu_at, if_neg (fun y => b4 y.1)]; exact ju.2⟩
    have v10 : v.2.2.1 0 10 = some b := by rw [ev]; exact f10
    have v13 : v.1 0 13 = 0 := by rw [ev]; show mjIu u.1 0 13 (Int32.ofInt 0) 0 13 = _; rw [mjIu_at, if_pos ⟨rfl, rfl⟩]; rfl
    have v17 : v.1 0 17 = σ.1 0 17 := by rw [ev]; show mjIu u.1 0 13 (Int32.ofInt 0) 0 17 = _; rw [mjIu_at, if_neg (fun y => absurd y.2 (by decide))]; exact f17
    have bjv : BLJ v := bju.e2 (by rw [ev])
    have kv : (v.2.2.2.1 c).1 = 1 := tv.k q1 q2
    refine kjZ_y rfl rfl 3 _ _ _ _ tv ?_
    refine (And.intro (Nat.le_of_ble_eq_true rfl) (And.intro (Or.inl ⟨(Nat.le_of_ble_eq_true rfl), (tv.k (by decide) rfl)⟩) (And.intro (Nat.le_of_ble_eq_true rfl) (And.intro (Nat.le_of_ble_eq_true rfl) (kjY_mono tv (fun q_ z tz xz h_ => ?_) (kx_burn (d := d + 2) tv gv bjv hb v10 jv.1 hn _ e2))))))
    obtain ⟨rfl, q⟩ := h_
    intro _ _
    have kz : (z.2.2.2.1 c).1 = 1 := tz.k q1 q2
    have ko := ob_k tz q4
    rcases q with ⟨gz, kz1, iz⟩ | ⟨gz, lz, bjz, z17, z13, cz, m, hm1, hm2, km, kf⟩
    · have eIz : ∀ h x, ¬ (h, x) = (0, 16) → z.1 h x = v.1 h x := fun h x w => iz.2 h x (fun y => w (List.mem_singleton.mp y))
      have eFz : z.2.2.1 = v.2.2.1 := congrArg (fun t => t.2.1) iz.1
      have nb0 : ∀ b ∈ OWb, ¬ b = 0 := by decide
      have kby : ∀ b' ∈ OWb, ∀ l', kBY v b' l' → kBY z b' l' := fun b' hb' l' h' => by
        obtain ⟨r, N, t1, t2, t3, t4, t5, t6, t7⟩ := h'
        have n0 := nb0 b' hb'
        have kr : ¬ r = 0 := fun w => by
          have k0 : (v.2.2.2.1 0).1 = 9 := tv.k (by decide) rfl
          rw [w] at t2; rw [t2] at k0; exact absurd (show (21 : Nat) = 9 from k0) (by decide)
        have eD : z.2.2.2.1 = v.2.2.2.1 := congrArg (fun t => t.2.2.1) iz.1
        refine ⟨r, N, by rw [eFz]; exact t1, by rw [eD]; exact t2, t3, by rw [eIz b' 0 (fun w => n0 (congrArg Prod.fst w))]; exact t4, by rw [eIz b' 2 (fun w => n0 (congrArg Prod.fst w))]; exact t5, t6, ?_⟩
        rw [show z.1 r = v.1 r from funext fun x => eIz r x (fun w => kr (congrArg Prod.fst w))]; exact t7
      have fz : FN0 σ z := fv.tr ⟨fun b' hb' l' h' => ⟨kby b' (OFb_k b' hb').1 l' h', eIz b' 3 (fun w => nb0 b' (OFb_k b' hb').1 (congrArg Prod.fst w))⟩, fun c' hc' => ⟨eIz c' 7 (fun w => (CN_k c' hc').2.2.2.2.2.1 (congrArg Prod.fst w)), eIz c' 0 (fun w => (CN_k c' hc').2.2.2.2.2.1 (congrArg Prod.fst w))⟩, fun c' hc' => by rw [eFz]⟩
      have cz : Ch true (fnF b) (fnO b) σ z := Ch.tr ts o4 cv ((Ch_ints (fs := [(0, 16)]) (os := []) iz.1 (fun h x w => iz.2 h x w) (fun p hp => by rw [List.mem_singleton.mp hp, tv.k (h := 0) (c := 9) (by decide) rfl]; decide)).up (fun z => z) (fun p hp => by rw [List.mem_singleton.mp hp]; exact i2 _ List.mem_cons_self) (fun p hp => by cases hp))
      have z13 : z.1 0 13 = 0 := (eIz 0 13 (by decide)).trans v13
      have z17 : z.1 0 17 = σ.1 0 17 := (eIz 0 17 (by decide)).trans v17
      have jz3 : z.1 b 3 = 0 := (eIz b 3 (fun w => b4 (congrArg Prod.fst w))).trans jv.2
      have bjz : BLJ z := bjv.e2 eFz
      refine kjZ_y rfl rfl 4 _ _ _ _ tz ?_
      refine (And.intro (by assumption) (And.intro (by assumption) (And.intro (fun w => ?_) (fun w => ?_))))
      · refine kjZ_y rfl rfl 1 _ _ _ _ tz ?_
        refine And.intro rfl (And.intro rfl ?_)
        exact ⟨rfl, z13, bjz, cz, Or.inl ⟨gz, kz1, jz3, z17, Or.inl ⟨fz.1, fz.2.1⟩⟩⟩
      obtain ⟨bk, hbk, eb⟩ := bjz.1 c hc
      obtain ⟨p1, -, -, -, -, -, p7, -⟩ := payB_ok bk hbk
      obtain ⟨n1, n2, n3⟩ := cn_pb c hc bk hbk
      refine kjZ_y rfl rfl 2 _ _ _ _ tz ?_
      refine (And.intro (Nat.le_of_ble_eq_true rfl) (And.intro (Or.inl ⟨(Nat.le_of_ble_eq_true rfl), (by assumption)⟩) (And.intro (Nat.le_of_ble_eq_true rfl) (And.intro (Nat.le_of_ble_eq_true rfl) (kjY_mono tz (fun q_ z2 tz2 xz2 h_ => ?_) (k_close (d := d + 5) tz gz hc p1 n2 eb))))))
      obtain ⟨rfl, g2, t1, t2, t3, t4, t5, t6, t7, t8, t9⟩ := h_
      intro _ _
      refine kjZ_y rfl rfl 1 _ _ _ _ tz2 ?_
      refine And.intro rfl (And.intro rfl ?_)
      have i5 : iC opF z z2 := ⟨t6.1, fun h x n => t6.2 h x (fun y => n (by rw [y.1]; exact (opF_in.1 _ hc).1 x y.2)) (fun y => n (by rw [y.1]; exact ((opF_in.1 _ hc).2 x y.2).1)) (fun y => n (by rw [y.1]; exact opF_in.2 bk hbk x y.2))⟩
      have oI : ∀ h x, ¬ h = c → ¬ h = c + 1 → ¬ h = bk → z2.1 h x = z.1 h x := fun h x w1 w2 w3 => t6.2 h x (fun y => w1 y.1) (fun y => w2 y.1) (fun y => w3 y.1)
      have c0 : ¬ 0 = c := fun w => (CN_k c hc).2.2.2.2.2.1 w.symm
      have b0 : ¬ 0 = bk := fun w => by
        have : ∀ bk ∈ payB, ¬ 0 = bk := by decide
        exact this bk hbk w
      have nbc : ¬ b = c := fun w => by
        have : ∀ b ∈ [5, 7], ∀ c ∈ CNs, ¬ b = c := by decide
        exact this b hb c hc w
      refine ⟨rfl, (oI 0 13 c0 (by omega) b0).trans z13, bjz.e2 (congrArg (fun t => t.2.1) t6.1), Ch.tr ts o4 cz ((i5.ch tz).up (fun z => z) i4 (fun p hp => by cases hp)), Or.inl ⟨g2, t5 b b1 (m2 bk hbk) m1 _ kz1, (oI b 3 nbc m1 (m2 bk hbk)).trans jz3, (oI 0 17 c0 (by omega) b0).trans z17, Or.inr ⟨bk, hbk, ?_, ⟨t1, t3⟩, ⟨t2, t4⟩, t9, t7, fun b' hb' w1 w2 l' h' => ?_, fun c' hc' w => ?_⟩⟩⟩
      · rw [← fz.2.2 c hc]; exact eb
      · obtain ⟨h1, h2⟩ := fz.1 b' hb' l' h'
        exact ⟨t5 b' (OFb_k b' hb').1 w1 w2 _ h1, (oI b' 3 ((CN_k c hc).2.2.2.2.2.2.1 b' hb') w2 w1).trans h2⟩
      · exact (oI c' 7 w ((CN_k c hc).2.2.2.2.2.2.2.2 c' hc').1 (((CN_k c hc).2.2.2.2.2.2.2.2 c' hc').2 bk hbk)).trans (fz.2.1 c' hc').1
    · have hb3 := (lz c hc)
      obtain ⟨_, _, _, _, _, _, _, _, hb3⟩ := hb3
      refine kjZ_y rfl rfl 4 _ _ _ _ tz ?_
      refine (And.intro (by assumption) (And.intro (by assumption) (And.intro (fun w => ?_) (fun w => ?_))))
      rotate_left
      · exact absurd hb3 w
      refine kjZ_y rfl rfl 1 _ _ _ _ tz ?_
      refine And.intro rfl (And.intro rfl ?_)
      exact ⟨rfl, z13, bjz, Ch.tr ts o4 cv (cz.up (fun z => z) i2 o2), Or.inr ⟨gz, lz, z17, m, hm1, hm2, km, kf.trans jv.2⟩⟩
  exact go _ tu' rfl
theorem kx_finish (ty : kTY σ) (g : KO B σ ws nmm ks) (hj : BLJ σ) {c : Nat} (hc : c ∈ CNs) {b : Nat} (hb : b ∈ [5, 7]) (h10 : σ.2.2.1 0 10 = some b) {l : List Int32} (jn : JN b σ l) {n : Nat} (hn : n ≤ l.length) (x2 : Int32) (e2 : x2 = nI n) (hl : (l ++ exC (σ.1 0 13) (σ.1 0 14)).length ≤ 210000) : kjY kPP (kQQ Y) (d + 8) 28 0 (mjL0 3 [.ref 0, .ref c, .int x2]) [] σ (fnP B c b σ nmm ks (l ++ exC (σ.1 0 13) (σ.1 0 14)) n) := by
  obtain ⟨b1, b2, b3, b4, b5⟩ := J_ok b hb
  obtain ⟨q1, q2, q3, q4, q5, -⟩ := CN_ok c hc
  obtain ⟨m1, m2, m3, m4, m5, m6, m7, m8, m9, m10, m11, -⟩ := fn_4 b hb c hc
  obtain ⟨i1, i2, i3, i4⟩ := fn_1 b hb
  obtain ⟨o1, o2, o3, o4⟩ := fn_2 b hb
  obtain ⟨r1, r2, r3⟩ := fn_3 b hb
  refine kjZ_y rfl rfl 3 _ _ _ _ ty ?_
  refine (And.intro (ty.k (by decide) rfl) (And.intro (Nat.le_of_ble_eq_true rfl) (And.intro (Or.inl ⟨(Nat.le_of_ble_eq_true rfl), (ty.k (by decide) rfl)⟩) (And.intro (Nat.le_of_ble_eq_true rfl) (And.intro (Nat.le_of_ble_eq_true rfl) (kjY_mono ty (fun q_ u1 ty1 xu1 h_ => ?_) (kx_tellRefusal (d := d) ty (g.1.in_ ty g.2.1 g.2.2))))))))
  obtain ⟨rfl, w1, s1⟩ := h_
  intro _ _
  have ko1 := (g.st ty w1).1
  have ch1 : Ch true kcF kcO σ u1 := w1.1.2
  have jn1 : JN b u1 l := jn.fr ty g.1.1.1 b1 ch1 (fun p hp => ⟨(r1 p hp).1, (r1 p hp).2.1⟩) r2
  have f0 : ∀ x, ¬ (0, x) ∈ kcF → u1.1 0 x = σ.1 0 x ∧ u1.2.1 0 x = σ.2.1 0 x ∧ u1.2.2.1 0 x = σ.2.2.1 0 x := fun x hx => ch1.fld ty (h := 0) (c := 9) (by decide) rfl (by decide) hx
  have h101 : u1.2.2.1 0 10 = some b := by rw [(f0 10 m7).2.2]; exact h10
  have fn1 : FN0 σ u1 := FN0.kc ty g.1.1.1 ch1
  have cu1 : Ch true (fnF b) (fnO b) σ u1 := ch1.up (fun z => z) i3 o3
  have kb1 := ob_k ty1 b1
  have k1 : (u1.2.2.2.1 c).1 = 1 := ty1.k q1 q2
  have no : exC (σ.1 0 13) (σ.1 0 14) = [] → kjY kPP (kQQ Y) (d + 8) 28 17 [some (.ref 0), some (.ref c), some (.int x2)] [] u1 (fnP B c b σ nmm ks (l ++ exC (σ.1 0 13) (σ.1 0 14)) n) := fun w => by
    rw [w, List.append_nil]
    exact kx_finish_t hc hb ty hj x2 e2 ty1 ko1.1 ⟨jn1.1, jn1.2.1⟩ hn cu1 fn1 h101 (f0 17 m10).1
  refine kjZ_y rfl rfl 3 _ _ _ _ ty1 ?_
  refine (And.intro (ty1.k (by decide) rfl) (And.intro (fun c1 => ?_) (fun c1 => ?_)))
  · have c1 : u1.1 0 13 = 0 := c1
    exact no (by unfold exC; rw [if_neg (fun w => w.1 ((f0 13 m8).1.symm.trans c1))])
  have c1 : ¬ u1.1 0 13 = 0 := c1
  refine kjZ_y rfl rfl 3 _ _ _ _ ty1 ?_
  refine (And.intro (ty1.k (by decide) rfl) (And.intro (fun c2 => ?_) (fun c2 => ?_)))
  · have c2 : u1.1 0 14 = 0 := c2
    exact no (by unfold exC; rw [if_neg (fun w => w.2 ((f0 14 m9).1.symm.trans c2))])
  have c2 : ¬ u1.1 0 14 = 0 := c2
  have eX : exC (σ.1 0 13) (σ.1 0 14) = hdN 1 ++ wordL (tb 4) := by
    unfold exC; rw [if_pos ⟨fun w => c1 ((f0 13 m8).1.trans w), fun w => c2 ((f0 14 m9).1.trans w)⟩, encR_hd]
    show hdN 1 ++ wordsL [tb 4] = _
    rw [wdsL_1]
  rw [eX, ← List.append_assoc] at hl ⊢
  have hl2 := hl
  rw [List.length_append, List.length_append] at hl2
  refine kjZ_y rfl rfl 4 _ _ _ _ ty1 ?_
  refine (And.intro (ty1.k (by decide) rfl) (Exists.intro _ (And.intro h101 (And.intro (Nat.le_of_ble_eq_true rfl) (And.intro (Or.inl ⟨(Nat.le_of_ble_eq_true rfl), (by assumption)⟩) (And.intro (Nat.le_of_ble_eq_true rfl) (And.intro (Nat.le_of_ble_eq_true rfl) (kjY_mono ty1 (fun q_ u2 ty2 xu2 h_ => ?_) (g_headN (d := d + 2) ty1 ko1.1 hb ⟨jn1.1, jn1.2.1⟩ (n := 1) (by decide) (by omega) _ rfl)))))))))
  obtain ⟨rfl, g2, j2, ch2⟩ := h_
  intro _ _
  have h102 : u2.2.2.1 0 10 = some b := by rw [(ch2.fld ty1 (h := 0) (x := 10) (c := 9) (by decide) rfl (by decide) m3).2.2]; exact h101
  have kb2 := ob_k ty2 b1
  have k2 : (u2.2.2.2.1 c).1 = 1 := ty2.k q1 q2
  refine kjZ_y rfl rfl 4 _ _ _ _ ty2 ?_
  refine (And.intro (ty2.k (by decide) rfl) (Exists.intro _ (And.intro h102 (And.intro rfl (And.intro (Nat.le_of_ble_eq_true rfl) (And.intro (Or.inl ⟨(Nat.le_of_ble_eq_true rfl), (by assumption)⟩) (And.intro (Nat.le_of_ble_eq_true rfl) (And.intro (Nat.le_of_ble_eq_true rfl) (kjY_mono ty2 (fun q_ u3 ty3 xu3 h_ => ?_) (g_text (d := d + 1) ty2 g2 hb j2 (i := 4) (by decide) (by rw [List.length_append]; omega)))))))))))
  obtain ⟨rfl, g3, j3, ch3⟩ := h_
  intro _ _
  have h103 : u3.2.2.1 0 10 = some b := by rw [(ch3.fld ty2 (h := 0) (x := 10) (c := 9) (by decide) rfl (by decide) m3).2.2]; exact h102
  have e17 : u3.1 0 17 = σ.1 0 17 := ((ch3.fld ty2 (h := 0) (x := 17) (c := 9) (by decide) rfl (by decide) m5).1.trans (ch2.fld ty1 (h := 0) (x := 17) (c := 9) (by decide) rfl (by decide) m5).1).trans (f0 17 m10).1
  exact kx_finish_t hc hb ty hj x2 e2 ty3 g3 j3 (by rw [List.length_append, List.length_append]; omega) (Ch.tr ty o4 (Ch.tr ty o4 cu1 (ch2.up (fun _ => rfl) i1 o1)) (ch3.up (fun _ => rfl) i1 o1)) ((fn1.tr (FN0.jn ty1 ko1.1.1.1 hb ch2)).tr (FN0.jn ty2 g2.1.1 hb ch3)) h103 e17
end KFINISH2
