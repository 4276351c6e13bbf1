/-! Keys whose time has come go, and each is logged. -/
def delR (w : List Int32) : Req := [tb 7, w]
/-- which keys stay, which go -/
def xpS (now : Int64) : List KC → List KC
  | [] => []
  | x :: r => if endE x.2.2.2.2.2 ≤ now then xpS now r else x :: xpS now r
def xpG (now : Int64) : List KC → List Req
  | [] => []
  | x :: r => if endE x.2.2.2.2.2 ≤ now then delR x.2.2.2.2.2.1 :: xpG now r else xpG now r
def xpF (b : Nat) : List (Nat × Nat) := jnF b ++ (drF ++ tcF)
def xpO (b : Nat) : List (Nat × Nat) := (b, 1) :: drO
theorem xp_1 : ∀ b ∈ [5, 7], (∀ p ∈ jnF b, p ∈ xpF b) ∧ (∀ p ∈ drF, p ∈ xpF b) ∧ (∀ p ∈ tcF, p ∈ xpF b) ∧ (∀ p ∈ [((b : Nat), (1 : Nat))], p ∈ xpO b) ∧ (∀ p ∈ drO, p ∈ xpO b) := by decide +kernel
theorem xp_2 : ∀ b ∈ [5, 7], (∀ p ∈ xpO b, p ∈ OWs) ∧ (∀ p ∈ drF ++ tcF, ¬ p.1 = b) ∧ (∀ p ∈ drO, p ∈ OWs ∧ ¬ p.1 = b) ∧ ¬ (0, 10) ∈ xpF b ∧ ¬ (59, 16) ∈ xpF b := by decide +kernel
theorem xp_in (b : Nat) (hb : b ∈ [5, 7]) : (∀ p ∈ jnF b, p ∈ xpF b) ∧ (∀ p ∈ drF, p ∈ xpF b) ∧ (∀ p ∈ tcF, p ∈ xpF b) ∧ (∀ p ∈ [((b : Nat), (1 : Nat))], p ∈ xpO b) ∧ (∀ p ∈ drO, p ∈ xpO b) ∧ (∀ p ∈ xpO b, p ∈ OWs) ∧ (∀ p ∈ drF ++ tcF, ¬ p.1 = b) ∧ (∀ p ∈ drO, p ∈ OWs ∧ ¬ p.1 = b) ∧ ¬ (0, 10) ∈ xpF b ∧ ¬ (59, 16) ∈ xpF b := ⟨(xp_1 b hb).1, (xp_1 b hb).2.1, (xp_1 b hb).2.2.1, (xp_1 b hb).2.2.2.1, (xp_1 b hb).2.2.2.2, xp_2 b hb⟩
section KEXPIRE
variable {Y : Nat → MethodName × ByteArray} {d : Nat} {σ u : kS} {B ws nm nm' : List (List Int32)} {ks ks' : List KC}
theorem delR_e (w : List Int32) : encR (delR w) = hdN 2 ++ wordL (tb 7) ++ wordL w := by
  rw [encR_hd]; show hdN 2 ++ wordsL [tb 7, w] = _
  rw [wdsL_cons, wdsL_cons, List.append_assoc]
  show hdN 2 ++ (wordL (tb 7) ++ (wordL w ++ [])) = _
  rw [List.append_nil]
theorem KG.at_ {P Q : List KC} {y : KC} (g : KG B σ nm (P ++ y :: Q)) : σ.2.2.2.1 y.1 = (11, 0) ∧ σ.2.1 y.1 3 = endE y.2.2.2.2.2 ∧ nm[y.2.1]? = some y.2.2.2.2.2.1 := by
  obtain ⟨fr, vs, hR, hV⟩ := g.2.2.1
  obtain ⟨r0, a1, a2, a3, a4, a5, a6⟩ := hV.1 y (List.mem_append_right _ List.mem_cons_self)
  obtain ⟨ri, rs, rh, NK, rt, NT, rn, Nn, te, rc, NC, rm, Nm, ce, ls, hG⟩ := hR
  obtain ⟨l, hl, hV0, -⟩ := hG.v a1
  exact ⟨by rw [← a2]; exact hV0.1.1, by rw [← a2, ← a5.2.2.1]; exact hV0.1.2.2.2.2.1, a6⟩
theorem kG_val (ty : kTY σ) {P Q : List KC} {y : KC} (g : KG B σ nm (P ++ y :: Q)) (x : Int32) (e1 : x = nI P.length) : kjY kPP (kQQ Y) d 129 0 (mjL0 3 [.ref 59, .int x]) [] σ (fun r u => u = σ ∧ r = some (.ref y.1)) := by
  obtain ⟨hc1, hc2⟩ := g.2.2.1.cnt
  obtain ⟨fr, vs, hR, hV⟩ := g.2.2.1
  obtain ⟨r0, a1, a2, a3, a4, a5, a6⟩ := hV.1 y (List.mem_append_right _ List.mem_cons_self)
  have hlP : P.length < (P ++ y :: Q).length := by rw [List.length_append, List.length_cons]; omega
  have hsp : ((P ++ y :: Q).map (fun x => x.2.2.1))[P.length]? = some y.2.2.1 := by
    rw [List.getElem?_map, List.getElem?_append_right (Nat.le_refl _), Nat.sub_self]; rfl
  refine kjY_mono ty (fun r z _ _ h => ?_) (k_valueAt ty hR x)
  obtain ⟨h1, q⟩ := h
  refine ⟨h1, ?_⟩
  rcases q with ⟨-, q⟩ | ⟨i, s, r', q1, q2, q3, q4, q5⟩
  · have := q P.length e1
    rw [List.length_map] at this; omega
  · rw [List.length_map] at q2
    have hi : P.length = i := (nI_eq (by omega) (by omega)).mp (e1.symm.trans q1)
    rw [← hi, List.getElem?_append_left (by rw [List.length_map]; exact hlP), hsp] at q3
    cases q3
    rw [a1] at q4; cases q4
    rw [q5, a2]
theorem kG_id (ty : kTY σ) {P Q : List KC} {y : KC} (g : KG B σ nm (P ++ y :: Q)) (x : Int32) (e1 : x = nI P.length) : kjY kPP (kQQ Y) d 128 0 (mjL0 2 [.ref 59, .int x]) [] σ (fun r u => u = σ ∧ r = some (.int (nI y.2.1))) := by
  obtain ⟨fr, vs, hR, hV⟩ := g.2.2.1
  refine kjY_mono ty (fun r z _ _ h => ?_) (k_idAt ty hR x)
  obtain ⟨h1, y', q1, q2⟩ := h
  refine ⟨h1, ?_⟩
  rw [q1, q2 P.length y.2.1 e1 (by rw [List.getElem?_map, List.getElem?_append_right (Nat.le_refl _), Nat.sub_self]; rfl)]
def xpP (B : List (List Int32)) (b : Nat) (σ : kS) (nm : List (List Int32)) (ks : List KC) (l : List Int32) : kK := fun r u => (∃ y, r = some (.int y)) ∧ KG B u nm ks ∧ (kBY u b l ∧ u.1 b 3 = 0) ∧ Ch true (xpF b) (xpO b) σ u
theorem kx_expire_l {b : Nat} (hb : b ∈ [5, 7]) (ts : kTY σ) (h10 : σ.2.2.1 0 10 = some b) {N : Nat} (hN : N ≤ 2600) (x3 : Int32) (e3 : x3 = nI N) : ∀ (R P : List KC) (l : List Int32) (x1 x2 x4 : Int32) (o5 o6 : Option Value) (u : kS) (i : Nat), i + R.length = N → x4 = nI i → x2 = nI P.length → kTY u → KG B u nm (P ++ R) → (kBY u b l ∧ u.1 b 3 = 0) → Ch true (xpF b) (xpO b) σ u → (l ++ (xpG (σ.2.1 59 16) R).flatMap encR).length ≤ 210000 →
    kjY kPP (kQQ Y) (d + 7) 31 16 [some (.ref 0), some (.int x1), some (.int x2), some (.int x3), some (.int x4), o5, o6] [] u (xpP B b σ nm (P ++ xpS (σ.2.1 59 16) R) (l ++ (xpG (σ.2.1 59 16) R).flatMap encR)) := by
  obtain ⟨b1, b2, b3, b4, b5⟩ := J_ok b hb
  obtain ⟨i1, i2, i3, i4, i5, i6, i7, i8, i9, i10⟩ := xp_in b hb
  intro R
  induction R with
  | nil =>
    intro P l x1 x2 x4 o5 o6 u i hi e4 e2 tu gu ju cu hl
    have hi : i = N := by simpa using hi
    refine kjZ_y rfl rfl 3 _ _ _ _ tu ?_
    refine And.intro (fun c => ?_) (fun c => ?_)
    rotate_left
    · exact absurd (show x3 ≤ x4 by rw [e3, e4, nle (by omega) (by omega)]; omega) c
    refine kjZ_y rfl rfl 2 _ _ _ _ tu ?_
    refine And.intro rfl (And.intro (Or.inl rfl) ?_)
    show xpP B b σ nm (P ++ []) (l ++ []) _ _
    rw [List.append_nil] at gu ⊢
    rw [List.append_nil]
    exact ⟨⟨_, rfl⟩, gu, ju, cu⟩
  | cons y R ih =>
    intro P l x1 x2 x4 o5 o6 u i hi e4 e2 tu gu ju cu hl
    have hi : i + R.length + 1 = N := by simp only [List.length_cons] at hi; omega
    have hcnt := gu.2.2.1.cnt
    rw [List.length_append, List.length_cons] at hcnt
    obtain ⟨y1, y2, y3⟩ := gu.at_
    have kv : (u.2.2.2.1 y.1).1 = 11 := by rw [y1]
    have ecl : u.2.1 59 16 = σ.2.1 59 16 := (cu.fld ts (h := 59) (x := 16) (c := 4) (by decide) rfl (by decide) i10).2.1
    have f10 : u.2.2.1 0 10 = some b := by rw [(cu.fld ts (h := 0) (x := 10) (c := 9) (by decide) rfl (by decide) i9).2.2]; exact h10
    refine kjZ_y rfl rfl 3 _ _ _ _ tu ?_
    refine And.intro (fun c => ?_) (fun c => ?_)
    · exact absurd (show x3 ≤ x4 from c) (by rw [e3, e4, nle (by omega) (by omega)]; omega)
    refine kjZ_y rfl rfl 4 _ _ _ _ tu ?_
    refine (And.intro (tu.k (by decide) rfl) (And.intro (Nat.le_of_ble_eq_true rfl) (And.intro (Or.inl ⟨(Nat.le_of_ble_eq_true rfl), (tu.k (by decide) rfl)⟩) (And.intro (Nat.le_of_ble_eq_true rfl) (And.intro (Nat.le_of_ble_eq_true rfl) (kjY_mono tu (fun q_ u1 ty1 xu1 h_ => ?_) (kG_val (d := d + 6) tu gu _ e2)))))))
    obtain ⟨rfl, rfl⟩ := h_
    intro _ _
    refine kjZ_y rfl rfl 3 _ _ _ _ ty1 ?_
    refine (And.intro (Nat.le_of_ble_eq_true rfl) ?_)
    refine kjZ_y rfl rfl 7 _ _ _ _ ty1 ?_
    refine (And.intro (by assumption) (And.intro (ty1.k (by decide) rfl) (And.intro (ty1.k (by decide) rfl) (And.intro (fun c2 => ?_) (fun c2 => ?_)))))
    · have c2 : ¬ u1.2.1 59 16 < u1.2.1 y.1 3 := fun z => by
        have := (lg_cmp_gt _ _).mpr z
        exact absurd c2 (Int32.not_le.mpr this)
      have hend : endE y.2.2.2.2.2 ≤ σ.2.1 59 16 := by rw [← y2, ← ecl]; exact Int64.not_lt.mp c2
      have eS : xpS (σ.2.1 59 16) (y :: R) = xpS (σ.2.1 59 16) R := by show (if _ then _ else _) = _; rw [if_pos hend]
      have eG : xpG (σ.2.1 59 16) (y :: R) = delR y.2.2.2.2.2.1 :: xpG (σ.2.1 59 16) R := by show (if _ then _ else _) = _; rw [if_pos hend]
      rw [eS, eG, List.flatMap_cons, ← List.append_assoc]
      rw [eG, List.flatMap_cons, ← List.append_assoc] at hl
      have hl2 := hl
      rw [List.length_append, List.length_append, delR_e, List.length_append, List.length_append] at hl2
      have hh : (hdN 2).length = 4 := by decide +kernel
      have kb := ob_k ty1 b1
      refine kjZ_y rfl rfl 4 _ _ _ _ ty1 ?_
      refine (And.intro (ty1.k (by decide) rfl) (And.intro (Nat.le_of_ble_eq_true rfl) (And.intro (Or.inl ⟨(Nat.le_of_ble_eq_true rfl), (ty1.k (by decide) rfl)⟩) (And.intro (Nat.le_of_ble_eq_true rfl) (And.intro (Nat.le_of_ble_eq_true rfl) (kjY_mono ty1 (fun q_ u2 ty2 xu2 h_ => ?_) (kG_id (d := d + 6) ty1 gu _ e2)))))))
      obtain ⟨rfl, rfl⟩ := h_
      intro _ _
      have hd : kjY kPP (kQQ Y) (d + 6) 60 0 (mjL0 2 [.ref b, .int (Int32.ofInt 2)]) [] u2 (gjP B b u2 nm (P ++ y :: R) (l ++ hdN 2)) := by
        refine kjY_mono ty2 (fun r z _ _ h => gu.gj ty2 hb ju.2 h (by omega)) (k_rowHead (d := d + 1) ty2 gu.1.1 b1 ju.1 _ (n := 2) rfl (by omega) (opQ_j hb gu.1.2 l ?_))
        have : (hdN 2).length = (dec (lN 2)).length + 3 := by unfold hdN; rw [List.length_append, List.length_cons]; rfl
        omega
      refine kjZ_y rfl rfl 5 _ _ _ _ ty2 ?_
      refine (And.intro (Nat.le_of_ble_eq_true rfl) (And.intro (ty2.k (by decide) rfl) (Exists.intro _ (And.intro f10 (And.intro (Nat.le_of_ble_eq_true rfl) (And.intro (Or.inl ⟨(Nat.le_of_ble_eq_true rfl), (by assumption)⟩) (And.intro (Nat.le_of_ble_eq_true rfl) (And.intro (Nat.le_of_ble_eq_true rfl) (kjY_mono ty2 (fun q_ u3 ty3 xu3 h_ => ?_) (hd))))))))))
      obtain ⟨rfl, g3, j3, c3⟩ := h_
      intro _ _
      have f103 : u3.2.2.1 0 10 = some b := by rw [(c3.fld ty2 (h := 0) (x := 10) (c := 9) (by decide) rfl (by decide) (fun z => i9 (i1 _ z))).2.2]; exact f10
      have kb3 := ob_k ty3 b1
      refine kjZ_y rfl rfl 4 _ _ _ _ ty3 ?_
      refine (And.intro (ty3.k (by decide) rfl) (Exists.intro _ (And.intro f103 (And.intro rfl (And.intro (Nat.le_of_ble_eq_true rfl) (And.intro (Or.inl ⟨(Nat.le_of_ble_eq_true rfl), (by assumption)⟩) (And.intro (Nat.le_of_ble_eq_true rfl) (And.intro (Nat.le_of_ble_eq_true rfl) (kjY_mono ty3 (fun q_ u4 ty4 xu4 h_ => ?_) (g_text (d := d) ty3 g3 hb j3 (i := 7) (by decide) (by rw [List.length_append]; omega)))))))))))
      obtain ⟨rfl, g4, j4, c4⟩ := h_
      intro _ _
      have f104 : u4.2.2.1 0 10 = some b := by rw [(c4.fld ty3 (h := 0) (x := 10) (c := 9) (by decide) rfl (by decide) (fun z => i9 (i1 _ z))).2.2]; exact f103
      have kb4 := ob_k ty4 b1
      refine kjZ_y rfl rfl 6 _ _ _ _ ty4 ?_
      refine (And.intro (ty4.k (by decide) rfl) (And.intro (ty4.k (by decide) rfl) (Exists.intro _ (And.intro f104 (And.intro (Nat.le_of_ble_eq_true rfl) (And.intro (Or.inl ⟨(Nat.le_of_ble_eq_true rfl), (ty4.k (by decide) rfl)⟩) (And.intro (Nat.le_of_ble_eq_true rfl) (And.intro (Nat.le_of_ble_eq_true rfl) (kjY_mono ty4 (fun q_ u5 ty5 xu5 h_ => ?_) (g_word (d := d + 1) ty4 g4 hb j4 y3 _ rfl (by rw [List.length_append, List.length_append]; omega)))))))))))
      obtain ⟨rfl, g5, j5, c5⟩ := h_
      intro _ _
      refine kjZ_y rfl rfl 4 _ _ _ _ ty5 ?_
      refine (And.intro (ty5.k (by decide) rfl) (And.intro (Nat.le_of_ble_eq_true rfl) (And.intro (Or.inl ⟨(Nat.le_of_ble_eq_true rfl), (ty5.k (by decide) rfl)⟩) (And.intro (Nat.le_of_ble_eq_true rfl) (And.intro (Nat.le_of_ble_eq_true rfl) (kjY_mono ty5 (fun q_ u6 ty6 xu6 h_ => ?_) (kG_dropAt (d := d + 4) ty5 g5 _ e2)))))))
      obtain ⟨rfl, g6, c6⟩ := h_
      intro _ _
      refine kjZ_y rfl rfl 4 _ _ _ _ ty6 ?_
      refine (And.intro (ty6.k (by decide) rfl) (And.intro (Nat.le_of_ble_eq_true rfl) (And.intro (Or.inl ⟨(Nat.le_of_ble_eq_true rfl), (ty6.k (by decide) rfl)⟩) (And.intro (Nat.le_of_ble_eq_true rfl) (And.intro (Nat.le_of_ble_eq_true rfl) (kjY_mono ty6 (fun q_ u7 ty7 xu7 h_ => ?_) (kG_touch (d := d + 5) ty6 g6 _)))))))
      obtain ⟨rfl, g7, c7⟩ := h_
      intro _ _
      refine kjZ_y rfl rfl 3 _ _ _ _ ty7 ?_
      have e9 : l ++ hdN 2 ++ wordL (tb 7) ++ wordL y.2.2.2.2.2.1 = l ++ encR (delR y.2.2.2.2.2.1) := by rw [delR_e]; simp only [List.append_assoc]
      rw [e9] at j5
      have k6 : Ch true (xpF b) (xpO b) u5 u6 := c6.up (fun z => z) i2 i5
      have k7 : Ch true (xpF b) (xpO b) u6 u7 := c7.up (fun _ => rfl) i3 (fun p hp => by cases hp)
      have qk : ∀ b ∈ [5, 7], (kd0 b).1 = 0 := by decide
      have j6 : kBY u6 b (l ++ encR (delR y.2.2.2.2.2.1)) ∧ u6.1 b 3 = 0 := ⟨j5.1.fr ty5 g5.1.1 b1 c6 (fun p hp => i7 p (List.mem_append_left _ hp)) i8, by rw [(c6.fld ty5 b5 (qk b hb) (by decide) (fun z => i7 _ (List.mem_append_left _ z) rfl)).1]; exact j5.2⟩
      have j7 : kBY u7 b (l ++ encR (delR y.2.2.2.2.2.1)) ∧ u7.1 b 3 = 0 := ⟨j6.1.fr ty6 g6.1.1 b1 c7 (fun p hp => i7 p (List.mem_append_right _ hp)) (fun p hp => by cases hp), by rw [(c7.fld ty6 b5 (qk b hb) (by decide) (fun z => i7 _ (List.mem_append_right _ z) rfl)).1]; exact j6.2⟩
      have t3 : Ch true (xpF b) (xpO b) σ u3 := Ch.tr ts i6 cu (c3.up (fun _ => rfl) i1 i4)
      have t4 : Ch true (xpF b) (xpO b) σ u4 := Ch.tr ts i6 t3 (c4.up (fun _ => rfl) i1 i4)
      have t5 : Ch true (xpF b) (xpO b) σ u5 := Ch.tr ts i6 t4 (c5.up (fun _ => rfl) i1 i4)
      exact ih P _ _ x2 _ _ _ u7 (i + 1) (by omega) (by rw [e4]; exact nI_1 i) e2 ty7 g7 j7 (Ch.tr ts i6 (Ch.tr ts i6 t5 k6) k7) hl
    · have c2 : u1.2.1 59 16 < u1.2.1 y.1 3 := by
        refine Int64.not_le.mp (fun z => c2 ?_)
        refine Int32.not_lt.mp (fun y9 => ?_)
        exact absurd ((lg_cmp_gt _ _).mp y9) (Int64.not_lt.mpr z)
      have hend : ¬ endE y.2.2.2.2.2 ≤ σ.2.1 59 16 := by rw [← y2, ← ecl]; exact Int64.not_le.mpr c2
      have eS : xpS (σ.2.1 59 16) (y :: R) = y :: xpS (σ.2.1 59 16) R := by show (if _ then _ else _) = _; rw [if_neg hend]
      have eG : xpG (σ.2.1 59 16) (y :: R) = xpG (σ.2.1 59 16) R := by show (if _ then _ else _) = _; rw [if_neg hend]
      rw [eS, eG]
      rw [eG] at hl
      refine kjZ_y rfl rfl 2 _ _ _ _ ty1 ?_
      refine kjZ_y rfl rfl 2 _ _ _ _ ty1 ?_
      have e8 : P ++ y :: xpS (σ.2.1 59 16) R = (P ++ [y]) ++ xpS (σ.2.1 59 16) R := by rw [List.append_assoc]; rfl
      rw [e8]
      exact ih (P ++ [y]) l _ _ _ _ _ u1 (i + 1) (by omega) (by rw [e4]; exact nI_1 i) (by rw [e2, List.length_append]; exact nI_1 P.length) ty1 (by rw [List.append_assoc]; exact gu) ju cu hl
theorem kx_expire (ty : kTY σ) (g : KG B σ nm ks) {b : Nat} (hb : b ∈ [5, 7]) (h10 : σ.2.2.1 0 10 = some b) {l : List Int32} (j : kBY σ b l ∧ σ.1 b 3 = 0) (hl : (l ++ (xpG (σ.2.1 59 16) ks).flatMap encR).length ≤ 210000) : kjY kPP (kQQ Y) (d + 7) 31 0 (mjL0 7 [.ref 0]) [] σ (fun r u => (σ.1 59 15 = 0 ∧ u = σ ∧ ∃ y, r = some (.int y)) ∨ xpP B b σ nm (xpS (σ.2.1 59 16) ks) (l ++ (xpG (σ.2.1 59 16) ks).flatMap encR) r u) := by
  obtain ⟨h1, h2⟩ := g.2.2.1.cnt
  refine kjZ_y rfl rfl 4 _ _ _ _ ty ?_
  refine (And.intro (ty.k (by decide) rfl) (And.intro (ty.k (by decide) rfl) (And.intro (fun c => ?_) (fun c => ?_))))
  rotate_left
  · refine kjZ_y rfl rfl 2 _ _ _ _ ty ?_
    refine And.intro rfl (And.intro (Or.inl rfl) ?_)
    exact Or.inl ⟨Decidable.not_not.mp c, rfl, _, rfl⟩
  refine kjZ_y rfl rfl 10 _ _ _ _ ty ?_
  refine (And.intro (Nat.le_of_ble_eq_true rfl) (And.intro (Nat.le_of_ble_eq_true rfl) (And.intro (ty.k (by decide) rfl) (And.intro (ty.k (by decide) rfl) (And.intro (Nat.le_of_ble_eq_true rfl) (And.intro (Nat.le_of_ble_eq_true rfl) ?_))))))
  refine kjY_mono ty (fun r z _ _ h => Or.inr h) (kx_expire_l hb ty h10 h2 _ h1 ks [] l _ _ _ none none σ 0 (by omega) rfl rfl ty g j Ch.rf hl)
end KEXPIRE
