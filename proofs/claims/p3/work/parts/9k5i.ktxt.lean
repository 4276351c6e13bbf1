/-! Texts: bytes are laid. -/
section KTXT
variable {Y : Nat → MethodName × ByteArray} {d : Nat} {σ0 σ u : kS} {B ws nm nm' : List (List Int32)} {ks : List KC}
theorem RST.tx (ty : kTY σ) (ow : OWN σ) (po : POT σ) {il sl : List Nat} {vs : List VR} {M T : Int32} (h : RST σ il sl vs M T) {s v n : Nat} {w c : Int32} {e : Int64} {t : List Int32} {cs : List (List Int64)} (hs : vs[s]? = some (v, 0, n, w, c, e, t, cs)) :
    ∃ rt NT st ro, (σ.2.2.1 59 7 = some rt ∧ σ.2.2.2.1 rt = (21, NT) ∧ NT ≤ 131072) ∧ (σ.2.2.2.1 v = (11, 0) ∧ σ.1 v 6 = nI n ∧ σ.1 v 7 = nI st ∧ σ.1 v 8 = nI ro ∧ σ.1 v 4 = w) ∧ (n ≤ ro ∧ ro ≤ 16384 ∧ st + ro ≤ NT ∧ t.length = n ∧ wd (σ.1 rt) st n = t) ∧ (¬ rt = v ∧ ¬ rt = 59) ∧
    ∀ (u : kS) (n' : Nat) (w' : Int32) (t' : List Int32), n' ≤ ro → u.2 = σ.2 → (∀ h x, ¬ (h = v ∧ (x = 4 ∨ x = 6)) → ¬ (h = rt ∧ st ≤ x ∧ x < st + ro) → u.1 h x = σ.1 h x) → u.1 v 4 = w' → u.1 v 6 = nI n' → wd (u.1 rt) st n' = t' → RST u il sl (vs.set s (v, 0, n', w', c, e, t', cs)) M T ∧ OWN u ∧ POT u ∧ Ch true [] [(59, 7)] σ u := by
  obtain ⟨ri, rs, rh, NK, rt, NT, rn, Nn, te, rc, NC, rm, Nm, ce, ls, hG⟩ := h
  obtain ⟨p1, p2, ⟨p3, p4⟩, p5, p6⟩ := hG.ap ty ow
  obtain ⟨l, hl, hV, g1, g2, g3, g4, g5, g6, g7⟩ := hG.v hs
  obtain ⟨⟨⟨i1, i2⟩, ⟨i3, i4⟩, ⟨i5, i6⟩, i7, i8⟩, ⟨⟨t1, t2⟩, ⟨t3, t4⟩, t5, t6, t7, t8, t9, t10⟩, ⟨⟨c1, c2⟩, ⟨c3, c4⟩, c5, c6, c7, c8, c9, c10⟩, hIX, a5, a6, a7⟩ := hG
  obtain ⟨⟨v1, v2, v3, v4, v5, v6, v7⟩, ⟨w1, w2, w3⟩, x1, xT, -⟩ := hV
  obtain ⟨y1, y2, y3, y4, y5⟩ := xT rfl
  have v1 : σ.2.2.2.1 v = (11, 0) := v1
  have w1 : σ.1 v 6 = nI n := w1
  have w2 : σ.1 v 7 = nI l.1 := w2
  have w3 : σ.1 v 8 = nI l.2 := w3
  have x1 : n ≤ l.2 := x1
  have y5 : wd (σ.1 rt) l.1 n = t := y5
  have y4s : l.1 + l.2 ≤ te ∨ (l.2 = 0 ∧ l.1 ≤ NT) := by rw [t2] at y4; exact y4
  have n59 : ¬ 59 = v := k11 ty v1 (by decide)
  have nrt : ¬ rt = 59 := (p2 rt (by simp)).2
  have nrv : ¬ rt = v := fun z => (p2 rt (by simp)).1.2 (by rw [z]; exact v1)
  refine ⟨rt, NT, l.1, l.2, ⟨t1, t2, t7⟩, ⟨v1, w1, w2, w3, v6⟩, ⟨x1, y3, by omega, y1, y5⟩, ⟨nrv, nrt⟩, ?_⟩
  intro u n' w' t' hn' e2 eo h4 h6 ht
  have eF : u.2.2.1 = σ.2.2.1 := congrArg (fun t => t.2.1) e2
  have eD : u.2.2.2.1 = σ.2.2.2.1 := congrArg (fun t => t.2.2.1) e2
  have eL : u.2.1 = σ.2.1 := congrArg (fun t => t.1) e2
  have ex : kEx σ u := ⟨by rw [e2]; exact Nat.le_refl _, fun h _ => by rw [eD], by rw [e2], by rw [e2]; exact Nat.le_refl _⟩
  have eh : ∀ h x, ¬ h = v → ¬ h = rt → u.1 h x = σ.1 h x := fun h x z1 z2 => eo h x (fun q => z1 q.1) (fun q => z2 q.1)
  have o59 : ∀ x, u.1 59 x = σ.1 59 x := fun x => eh 59 x n59 (fun q => nrt q.symm)
  have wo : ∀ x, ¬ x = 4 → ¬ x = 6 → u.1 v x = σ.1 v x := fun x z4 z6 => eo v x (fun q => q.2.elim z4 z6) (fun q => nrv q.1.symm)
  refine ⟨⟨ri, rs, rh, NK, rt, NT, rn, Nn, te, rc, NC, rm, Nm, ce, ls.set s l, ⟨⟨by rw [eF]; exact i1, by rw [eD]; exact i2⟩, ⟨by rw [eF]; exact i3, by rw [eD]; exact i4⟩, ⟨by rw [eF]; exact i5, by rw [eD]; exact i6⟩, i7, i8⟩, ⟨⟨by rw [eF]; exact t1, by rw [eD]; exact t2⟩, ⟨by rw [eF]; exact t3, by rw [eD]; exact t4⟩, t5, t6, t7, t8, (o59 9).trans t9, t10⟩, ⟨⟨by rw [eF]; exact c1, by rw [eD]; exact c2⟩, ⟨by rw [eF]; exact c3, by rw [eD]; exact c4⟩, c5, c6, c7, c8, (o59 12).trans c9, c10⟩, ?_, ?_, (o59 14).trans a6, (o59 15).trans a7⟩, ow.same (fun p _ => by rw [eF]), po.same (fun p hp => kl_eq ty ex hp (by rw [eF])) (fun b q => ?_) (o59 6) ⟨by rw [e2], by rw [e2]⟩, ⟨ex, fun h x h1 h2 h3 => ⟨?_, by rw [eL], by rw [eF]⟩, fun g h1 h2 h3 => ⟨funext fun x => ?_, by rw [eL], by rw [eF]⟩, fun p _ _ _ => Or.inl (by rw [eF])⟩⟩
  · exact hIX.upd (u := u) (r' := (v, 0, n', w', c, e, t', cs)) hs rfl (o59 13) (o59 6) (funext fun x => eh ri x (fun z => (p2 ri (by simp)).1.2 (by rw [z]; exact v1)) (fun z => p5 z)) (funext fun x => eh rs x (fun z => (p2 rs (by simp)).1.2 (by rw [z]; exact v1)) (fun z => p6 z)) (by rw [eF])
  · refine a5.upd (u := u) (te' := te) (ce' := ce) (r' := (v, 0, n', w', c, e, t', cs)) (l' := l) hIX.2.2.2.2.2 hs hl (Nat.le_refl _) (Nat.le_refl _) ⟨by rw [eD]; exact Nat.le_refl _, by rw [eD]; exact Nat.le_refl _⟩ (fun v' hv' => by rw [eD]; exact hv') (fun v' x hv' z => ⟨eh v' x z (fun y => (p2 rt (by simp)).1.2 (by rw [← y]; exact hv')), by rw [eL]⟩) (fun j hj z => eo rt j (fun q => nrv q.1) (fun q => z ⟨rfl, q.2.1, q.2.2⟩)) (fun j _ _ => by rw [eL]) ⟨⟨by rw [eD]; exact v1, v2, (wo 1 (by decide) (by decide)).trans v3, (wo 2 (by decide) (by decide)).trans v4, by rw [eL]; exact v5, h4, (wo 5 (by decide) (by decide)).trans v7⟩, ⟨h6, (wo 7 (by decide) (by decide)).trans w2, (wo 8 (by decide) (by decide)).trans w3⟩, hn', fun _ => ⟨by show t'.length = n'; rw [← ht, wd_len], y2, y3, by rw [eD]; exact y4, ht⟩, fun z => absurd rfl z⟩ (fun i q k hi hq hk2 => ?_)
    have z := a5.2.2 s i _ l q k (fun z => hi z.symm) hs hl hq hk2
    exact z
  · have hb : ∀ b ∈ OWb, b < 76 ∧ ¬ b = 59 := by decide
    refine eh b 2 (k11 ty v1 (hb b q).1) (fun z => ?_)
    have kb := ob_k ty q
    rw [z, t2] at kb; exact absurd kb (show ¬ (21 : Nat) = 0 by decide)
  · refine eh h x (fun z => h2 rfl (by rw [z, v1])) (fun z => ?_)
    rw [z, t2] at h1; exact absurd h1 (show ¬ (21 : Nat) < 20 by decide)
  · refine eh g x (fun z => ?_) (fun z => h3 (59, 7) (by decide) (by rw [z]; exact t1))
    rw [z, v1] at h1; exact absurd h1 (by decide)
theorem k_rangeC (ty : kTY σ) {N a b : Nat} (h1 : a ≤ b) (h2 : b ≤ N) (hN : N < 2 ^ 31) (x0 x1 x2 : Int32) (e0 : x0 = nI N) (e1 : x1 = nI a) (e2 : x2 = nI b) : kjY kPP (kQQ Y) d 309 0 (mjL0 3 [.int x0, .int x1, .int x2]) [] σ (fun r u => r = none ∧ u = σ) := by
  refine kjZ_y rfl rfl 3 _ _ _ _ ty ?_
  refine And.intro (fun c => ?_) (fun c => ?_)
  rotate_left
  · exact absurd (show x1 ≤ x2 by rw [e1, e2, nle (by omega) (by omega)]; exact h1) c
  refine kjZ_y rfl rfl 2 _ _ _ _ ty ?_
  refine And.intro (fun c2 => ?_) (fun c2 => ?_)
  rotate_left
  · exact absurd (show nI 0 ≤ x1 by rw [e1, nle (by decide) (by omega)]; omega) c2
  refine kjZ_y rfl rfl 3 _ _ _ _ ty ?_
  refine And.intro (fun c3 => ?_) (fun c3 => ?_)
  rotate_left
  · exact absurd (show x2 ≤ x0 by rw [e2, e0, nle (by omega) (by omega)]; exact h2) c3
  refine kjZ_y rfl rfl 1 _ _ _ _ ty ?_
  refine And.intro rfl (And.intro rfl ?_)
  exact ⟨rfl, rfl⟩
theorem k_fill_l {r N a b : Nat} (kr : σ.2.2.2.1 r = (21, N)) (hN : N < 2 ^ 30) (hb : b ≤ N) (x1 x2 : Int32) (e2 : x2 = nI b) : ∀ (f i : Nat) (x4 : Int32) (u : kS), i + f = b → a ≤ i → x4 = nI i → kTY u → u.2 = σ.2 → (∀ h x, ¬ (h = r ∧ a ≤ x ∧ x < i) → u.1 h x = σ.1 h x) → (∀ x, a ≤ x → x < i → u.1 r x = 0) →
    kjY kPP (kQQ Y) d 311 7 [some (.ref r), some (.int x1), some (.int x2), some (.int (Int32.ofInt 0)), some (.int x4)] [] u (fun q z => q = none ∧ z.2 = σ.2 ∧ (∀ h x, ¬ (h = r ∧ a ≤ x ∧ x < b) → z.1 h x = σ.1 h x) ∧ ∀ x, a ≤ x → x < b → z.1 r x = 0) := by
  intro f
  induction f with
  | zero =>
    intro i x4 u hi ha e4 tu h1 h2 h3
    refine kjZ_y rfl rfl 3 _ _ _ _ tu ?_
    refine And.intro (fun c => ?_) (fun c => ?_)
    rotate_left
    · exact absurd (show x2 ≤ x4 by rw [e2, e4, nle (by omega) (by omega)]; omega) c
    refine kjZ_y rfl rfl 1 _ _ _ _ tu ?_
    refine And.intro rfl (And.intro rfl ?_)
    have : i = b := by omega
    subst this
    exact ⟨rfl, h1, h2, h3⟩
  | succ f ih =>
    intro i x4 u hi ha e4 tu h1 h2 h3
    have kr1 : u.2.2.2.1 r = (21, N) := by rw [show u.2.2.2.1 = σ.2.2.2.1 from congrArg (fun t => t.2.2.1) h1]; exact kr
    refine kjZ_y rfl rfl 3 _ _ _ _ tu ?_
    refine And.intro (fun c => ?_) (fun c => ?_)
    · exact absurd (show x2 ≤ x4 from c) (by rw [e2, e4, nle (by omega) (by omega)]; omega)
    refine kjZ_y rfl rfl 6 _ _ _ _ tu ?_
    refine (And.intro ⟨(kdk kr1), (by decide)⟩ (And.intro (kdv kr1 (by rw [e4]; exact vp_in_nI (by omega) (by omega))) (fun tu' => ?_)))
    have go : ∀ z, kTY z → z = (mjIu u.1 r x4.toNatClampNeg (Int32.ofInt 0), u.2) → kjY kPP (kQQ Y) d 311 7 [some (.ref r), some (.int x1), some (.int x2), some (.int (Int32.ofInt 0)), some (.int (x4 + Int32.ofInt 1))] [] z (fun q z => q = none ∧ z.2 = σ.2 ∧ (∀ h x, ¬ (h = r ∧ a ≤ x ∧ x < b) → z.1 h x = σ.1 h x) ∧ ∀ x, a ≤ x → x < b → z.1 r x = 0) := by
      intro z tz ez
      rw [e4, nI_clamp (by omega)] at ez
      refine ih (i + 1) _ z (by omega) (by omega) (by rw [e4]; exact nI_1 i) tz (by rw [ez]; exact h1) (fun h x hx => ?_) (fun x hx1 hx2 => ?_)
      · rw [ez]; show mjIu u.1 r i _ h x = _
        rw [mjIu_at, if_neg (fun q => hx ⟨q.1, by omega, by omega⟩)]
        exact h2 h x (fun q => hx ⟨q.1, q.2.1, by omega⟩)
      · rw [ez]; show mjIu u.1 r i _ r x = _
        rw [mjIu_at]
        by_cases xi : x = i
        · rw [if_pos ⟨rfl, xi⟩]; rfl
        · rw [if_neg (fun q => xi q.2)]; exact h3 x hx1 (by omega)
    exact go _ tu' rfl
theorem k_fill (ty : kTY σ) {r N a b : Nat} (kr : σ.2.2.2.1 r = (21, N)) (hN : N < 2 ^ 30) (hab : a ≤ b) (hb : b ≤ N) (x1 x2 : Int32) (e1 : x1 = nI a) (e2 : x2 = nI b) :
    kjY kPP (kQQ Y) (d + 1) 311 0 (mjL0 5 [.ref r, .int x1, .int x2, .int (Int32.ofInt 0)]) [] σ (fun q z => q = none ∧ z.2 = σ.2 ∧ (∀ h x, ¬ (h = r ∧ a ≤ x ∧ x < b) → z.1 h x = σ.1 h x) ∧ ∀ x, a ≤ x → x < b → z.1 r x = 0) := by
  refine kjZ_y rfl rfl 5 _ _ _ _ ty ?_
  refine (Or.inl (And.intro (kdq kr) (And.intro (Nat.le_of_ble_eq_true rfl) (And.intro (Nat.le_of_ble_eq_true rfl) (And.intro (Nat.le_of_ble_eq_true rfl) (kjY_mono ty (fun q_ u1 ty1 xu1 h_ => ?_) (k_rangeC ty hab hb (by omega) _ _ _ (by rw [kr]) e1 e2)))))))
  obtain ⟨rfl, rfl⟩ := h_
  intro _ _
  refine kjZ_y rfl rfl 2 _ _ _ _ ty1 ?_
  refine (And.intro (Nat.le_of_ble_eq_true rfl) ?_)
  exact k_fill_l kr hN hb x1 x2 e2 (b - a) a _ u1 (by omega) (Nat.le_refl _) e1 ty1 rfl (fun _ _ _ => rfl) (fun x h1 h2 => by omega)
end KTXT
