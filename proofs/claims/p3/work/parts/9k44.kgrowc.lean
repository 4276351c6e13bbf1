/-! Keys: a value that is no text gets room. -/
section KGROWC
variable {Y : Nat → MethodName × ByteArray} {d : Nat} {σ u : kS}
def gcP (σ : kS) (il sl : List Nat) (vs : List VR) (M T : Int32) (v n : Nat) : kK := fun q u => q = none ∧ RST u il sl vs M T ∧ (∃ ρ, u.1 v 8 = nI ρ ∧ n < ρ ∧ ρ < 2 ^ 30) ∧ OWN u ∧ POT u ∧ Ch true clF clO σ u
/-- how many parts have been copied -/
def GCJ (σ : kS) (rc ce ρ n j : Nat) (cs : List (List Int64)) (u : kS) : Prop := u.1 = σ.1 ∧ u.2.2 = σ.2.2 ∧ (∀ h, ¬ h = rc → u.2.1 h = σ.2.1 h) ∧ (∀ k, k < ce → u.2.1 rc k = σ.2.1 rc k) ∧ ∀ p q, p < j → cs[p]? = some q → wl (u.2.1 rc) (ce + p * ρ) n = q
theorem k_growC4 (K : kK) (ty : kTY σ) {v n rc NC ce a r ρ P : Nat} (kv : (σ.2.2.2.1 v).1 = 11) (fc : σ.2.2.1 59 10 = some rc) (kc : σ.2.2.2.1 rc = (23, NC)) (hce : ce + P * ρ ≤ NC) (hNC : NC ≤ 65536) (e12 : σ.1 59 12 = nI ce) (w2 : σ.1 v 2 = nI P) (w6 : σ.1 v 6 = nI n) (w7 : σ.1 v 7 = nI a) (w8 : σ.1 v 8 = nI r) (hP : P ≤ 4) (hnr : n ≤ r) (hnρ : n ≤ ρ) (ha : a + P * r ≤ ce ∨ (r = 0 ∧ P * r = 0 ∧ a ≤ NC)) {cs : List (List Int64)} (hcs : ∀ p q, cs[p]? = some q → wl (σ.2.1 rc) (a + p * r) n = q) (x2 x3 x4 : Int32) (e3 : x3 = nI ρ)
    (hK : ∀ u x5, kTY u → GCJ σ rc ce ρ n P cs u → kjY kPP (kQQ Y) (d + 1) 143 64 [some (.ref 59), some (.ref v), some (.int x2), some (.int x3), some (.int x4), some (.int x5)] [] u K) : ∀ (f j : Nat) (x5 : Int32) (u : kS), j + f = P → x5 = nI j → kTY u → GCJ σ rc ce ρ n j cs u →
    kjY kPP (kQQ Y) (d + 1) 143 38 [some (.ref 59), some (.ref v), some (.int x2), some (.int x3), some (.int x4), some (.int x5)] [] u K := by
  intro f
  induction f with
  | zero =>
    intro j x5 u hj e5 tu pj
    have eD : u.2.2.2.1 = σ.2.2.2.1 := congrArg (fun t => t.2.1) pj.2.1
    have kvu : (u.2.2.2.1 v).1 = 11 := by rw [eD]; exact kv
    refine kjZ_y rfl rfl 4 _ _ _ _ tu ?_
    refine (And.intro (by assumption) (And.intro (fun c => ?_) (fun c => ?_)))
    · exact hK u x5 tu (by rw [show P = j by omega]; exact pj)
    · refine absurd (show u.1 v 2 ≤ x5 from ?_) c
      rw [pj.1, w2, e5, nle (by omega) (by omega)]; omega
  | succ f ih =>
    intro j x5 u hj e5 tu pj
    have eD : u.2.2.2.1 = σ.2.2.2.1 := congrArg (fun t => t.2.1) pj.2.1
    have eF : u.2.2.1 = σ.2.2.1 := congrArg (fun t => t.1) pj.2.1
    have kvu : (u.2.2.2.1 v).1 = 11 := by rw [eD]; exact kv
    have fcu : u.2.2.1 59 10 = some rc := by rw [eF]; exact fc
    have kcu : u.2.2.2.1 rc = (23, NC) := by rw [eD]; exact kc
    have hjr : j * r + r ≤ P * r := by
      have := Nat.mul_le_mul_right r (show j + 1 ≤ P by omega)
      rw [Nat.succ_mul] at this; exact this
    have hjn : j * ρ + ρ ≤ P * ρ := by
      have := Nat.mul_le_mul_right ρ (show j + 1 ≤ P by omega)
      rw [Nat.succ_mul] at this; exact this
    have esp : u.1 v 7 + x5 * u.1 v 8 = nI (a + j * r) := by rw [pj.1, w7, w8, e5, pk_mul, nI_add]
    have edp : u.1 59 12 + x5 * x3 = nI (ce + j * ρ) := by rw [pj.1, e12, e5, e3, pk_mul, nI_add]
    refine kjZ_y rfl rfl 4 _ _ _ _ tu ?_
    refine (And.intro (by assumption) (And.intro (fun c => ?_) (fun c => ?_)))
    · refine absurd (show u.1 v 2 ≤ x5 from c) ?_
      rw [pj.1, w2, e5, nle (by omega) (by omega)]; omega
    refine kjZ_y rfl rfl 22 _ _ _ _ tu ?_
    refine (And.intro (tu.k (by decide) rfl) (Exists.intro _ (And.intro fcu (And.intro (by assumption) (And.intro (by assumption) (And.intro (tu.k (by decide) rfl) (Exists.intro _ (And.intro fcu (And.intro (tu.k (by decide) rfl) (And.intro (by assumption) (Exists.intro (a + j * r) (Exists.intro (ce + j * ρ) (Exists.intro n (And.intro ⟨esp, edp, by rw [pj.1]; exact w6⟩ (And.intro ⟨rfl, by rw [kcu]; show _ ≤ NC; omega, by rw [kcu]; show _ ≤ NC; omega⟩ (And.intro ⟨(Nat.le_of_ble_eq_true rfl), (Nat.le_of_ble_eq_true rfl)⟩ (Or.inr (And.intro (kdk kcu) (fun tu' => ?_)))))))))))))))))))
    have go : ∀ w, kTY w → w = (u.1, kUp u.2.1 rc (va_cpy (u.2.1 rc) (u.2.1 rc) (a + j * r) (ce + j * ρ) n), u.2.2) → kjY kPP (kQQ Y) (d + 1) 143 38 [some (.ref 59), some (.ref v), some (.int x2), some (.int x3), some (.int x4), some (.int (x5 + Int32.ofInt 1))] [] w K := by
      intro w tw ew
      have eLg : ∀ k, w.2.1 rc k = va_cpy (u.2.1 rc) (u.2.1 rc) (a + j * r) (ce + j * ρ) n k := fun k => by rw [ew]; show kUp u.2.1 rc _ rc k = _; rw [kUp_s]
      refine ih (j + 1) _ w (by omega) (by rw [e5]; exact nI_1 j) tw ⟨by rw [ew]; exact pj.1, by rw [ew]; exact pj.2.1, fun h z => ?_, fun k hk => ?_, fun p q hp hq => ?_⟩
      · rw [ew]; show kUp u.2.1 rc _ h = _; rw [kUp_n z]; exact pj.2.2.1 h z
      · rw [eLg, pk_cpy_out (Or.inl (by omega))]; exact pj.2.2.2.1 k hk
      · by_cases z : p = j
        · rw [z] at hq ⊢
          refine Eq.trans (wl_congr fun k hk => (eLg _).trans ?_) (hcs j q hq)
          rw [pk_cpy_in (by omega) (by omega), pj.2.2.2.1 _ (by omega)]; exact congrArg (σ.2.1 rc) (by omega)
        · have hpj : p * ρ + ρ ≤ j * ρ := by
            have := Nat.mul_le_mul_right ρ (show p + 1 ≤ j by omega)
            rw [Nat.succ_mul] at this; exact this
          refine Eq.trans (wl_congr fun k hk => (eLg _).trans ?_) (pj.2.2.2.2 p q (by omega) hq)
          rw [pk_cpy_out (Or.inl (by omega))]
    exact go _ tu' rfl
theorem k_moveC {σ0 : kS} (ty0 : kTY σ0) (ty : kTY σ) (ow : OWN σ) (po : POT σ) {il sl : List Nat} {vs : List VR} {M T : Int32} (h : RST σ il sl vs M T) {s v k n : Nat} {w c : Int32} {e : Int64} {t : List Int32} {cs : List (List Int64)} (hs : vs[s]? = some (v, k, n, w, c, e, t, cs)) (hk : ¬ k = 0) (hcs : cs.length = pts k) {ρ : Nat} (hnρ : n < ρ) (hρ : ρ < 2 ^ 20) (hfit : ∀ rc NC ce, σ.2.2.1 59 10 = some rc → σ.2.2.2.1 rc = (23, NC) → σ.1 59 12 = nI ce → ce ≤ NC → ce + pts k * ρ ≤ NC) (ch : Ch true clF clO σ0 σ) (x2 x3 x4 : Int32) (o5 : Option Value) (e3 : x3 = nI ρ) (e4 : x4 = nI (pts k * ρ)) :
    kjY kPP (kQQ Y) (d + 1) 143 28 [some (.ref 59), some (.ref v), some (.int x2), some (.int x3), some (.int x4), o5] [] σ (gcP σ0 il sl vs M T v n) := by
  obtain ⟨ri, rs, rh, NK, rt, NT, rn, Nn, te, rc, NC, rm, Nm, ce, ls, hG⟩ := h
  obtain ⟨p1, p2, ⟨p3, p4⟩, p5, p6⟩ := hG.ap ty ow
  obtain ⟨l, hl, hV, g1, g2, g3, g4, g5, g6, g7⟩ := hG.v hs
  obtain ⟨⟨⟨i1, i2⟩, ⟨i3, i4⟩, ⟨i5, i6⟩, i7, i8⟩, ⟨⟨t1, t2⟩, ⟨t3, t4⟩, t5, t6, t7, t8, t9, t10⟩, ⟨⟨c1, c2⟩, ⟨c3, c4⟩, c5, c6, c7, c8, c9, c10⟩, hIX, a5, a6, a7⟩ := hG
  obtain ⟨⟨v1, v2, v3, v4, v5, v6, v7⟩, ⟨w1, w2, w3⟩, x1, -, xC⟩ := hV
  obtain ⟨y1, y2, y3, y4⟩ := xC hk
  have v1 : σ.2.2.2.1 v = (11, 0) := v1
  have v4 : σ.1 v 2 = nI (pts k) := v4
  have w1 : σ.1 v 6 = nI n := w1
  have w2 : σ.1 v 7 = nI l.1 := w2
  have w3 : σ.1 v 8 = nI l.2 := w3
  have x1 : n ≤ l.2 := x1
  have y3 : l.1 + pts k * l.2 ≤ ce ∨ (l.2 = 0 ∧ pts k * l.2 = 0 ∧ l.1 ≤ NC) := by rw [c2] at y3; exact y3
  have y4 : ∀ p q, cs[p]? = some q → wl (σ.2.1 rc) (l.1 + p * l.2) n = q := y4
  have kv : (σ.2.2.2.1 v).1 = 11 := by rw [v1]
  have hft := hfit rc NC ce c1 c2 c9 c10
  have n59 : ¬ 59 = v := k11 ty v1 (by decide)
  have nrv : ¬ rc = v := fun z => (p2 rc (by simp)).1.2 (by rw [z]; exact v1)
  refine kjZ_y rfl rfl 8 _ _ _ _ ty ?_
  refine (And.intro (ty.k (by decide) rfl) (Exists.intro _ (And.intro c1 (Or.inl (And.intro (kdq c2) (And.intro (ty.k (by decide) rfl) (And.intro (fun o => ?_) (fun o => ?_))))))))
  · refine absurd (show nI (σ.2.2.2.1 rc).2 - σ.1 59 12 < x4 from o) ?_
    rw [c2, c9, e4, pk_sub (by omega), nlt (by omega) (by omega)]; omega
  refine kjZ_y rfl rfl 2 _ _ _ _ ty ?_
  refine (And.intro (Nat.le_of_ble_eq_true rfl) ?_)
  refine k_growC4 _ ty kv c1 c2 hft c7 c9 v4 w1 w2 w3 (pts_le k) x1 (by omega) y3 y4 x2 x3 x4 e3 (fun u1 x5 ty1 pj => ?_) (pts k) 0 _ σ (by omega) rfl ty ⟨rfl, rfl, fun _ _ => rfl, fun _ _ => rfl, fun p q hp => absurd hp (Nat.not_lt_zero p)⟩
  obtain ⟨q1, q2, q3, q4, q5⟩ := pj
  have kv1 : (u1.2.2.2.1 v).1 = 11 := by rw [show u1.2.2.2.1 = σ.2.2.2.1 from congrArg (fun t => t.2.1) q2]; exact kv
  refine kjZ_y rfl rfl 13 _ _ _ _ ty1 ?_
  refine (And.intro (ty1.k (by decide) rfl) (And.intro (by assumption) (And.intro (Or.inl rfl) (fun ty1' => (And.intro (by assumption) (And.intro (Or.inl rfl) (fun ty1'' => (And.intro (ty1''.k (by decide) rfl) (And.intro (ty1''.k (by decide) rfl) (And.intro (Or.inl rfl) (fun ty1''' => ?_)))))))))))
  have go2 : ∀ w, kTY w → w = (mjIu (mjIu (mjIu u1.1 v 7 (u1.1 59 12)) v 8 x3) 59 12 (mjIu (mjIu u1.1 v 7 (u1.1 59 12)) v 8 x3 59 12 + x4), u1.2) → kjY kPP (kQQ Y) (d + 1) 143 77 [some (.ref 59), some (.ref v), some (.int x2), some (.int x3), some (.int x4), some (.int x5)] [] w (gcP σ0 il sl vs M T v n) := by
    intro w tw ew
    have f9 : u1.1 59 12 = nI ce := by rw [q1]; exact c9
    have e99 : mjIu (mjIu u1.1 v 7 (u1.1 59 12)) v 8 x3 59 12 + x4 = nI (ce + pts k * ρ) := by
      rw [mjIu_at, if_neg (fun z => n59 z.1), mjIu_at, if_neg (fun z => n59 z.1), f9, e4, nI_add]
    rw [e99, f9, e3] at ew
    have eW : ∀ h x, w.1 h x = if h = 59 ∧ x = 12 then nI (ce + pts k * ρ) else if h = v ∧ x = 8 then nI ρ else if h = v ∧ x = 7 then nI ce else σ.1 h x := by
      intro h x
      rw [ew]; show mjIu (mjIu (mjIu u1.1 v 7 _) v 8 _) 59 12 _ h x = _
      rw [mjIu_at, mjIu_at, mjIu_at, q1]
    have e2 : w.2.2 = σ.2.2 := by rw [ew]; exact q2
    have eF : w.2.2.1 = σ.2.2.1 := congrArg (fun t => t.1) e2
    have eD : w.2.2.2.1 = σ.2.2.2.1 := congrArg (fun t => t.2.1) e2
    have eL : ∀ h, ¬ h = rc → w.2.1 h = σ.2.1 h := fun h z => by rw [ew]; exact q3 h z
    have eLc : w.2.1 rc = u1.2.1 rc := by rw [ew]
    have ex : kEx σ w := ⟨by rw [e2]; exact Nat.le_refl _, fun h _ => by rw [eD], by rw [e2], by rw [e2]; exact Nat.le_refl _⟩
    have eo : ∀ h x, ¬ h = v → ¬ (h = 59 ∧ x = 12) → w.1 h x = σ.1 h x := fun h x z1 z3 => by rw [eW, if_neg z3, if_neg (fun q => z1 q.1), if_neg (fun q => z1 q.1)]
    have o59 : ∀ x, ¬ x = 12 → w.1 59 x = σ.1 59 x := fun x z => eo 59 x n59 (fun q => z q.2)
    have w7 : w.1 v 7 = nI ce := by rw [eW, if_neg (fun q => n59 q.1.symm), if_neg (fun q => absurd q.2 (by decide)), if_pos ⟨rfl, rfl⟩]
    have w8 : w.1 v 8 = nI ρ := by rw [eW, if_neg (fun q => n59 q.1.symm), if_pos ⟨rfl, rfl⟩]
    have wo : ∀ x, ¬ x = 7 → ¬ x = 8 → w.1 v x = σ.1 v x := fun x z7 z8 => by rw [eW, if_neg (fun q => n59 q.1.symm), if_neg (fun q => z8 q.2), if_neg (fun q => z7 q.2)]
    refine kjZ_y rfl rfl 1 _ _ _ _ tw ?_
    refine And.intro rfl (And.intro rfl ?_)
    refine ⟨rfl, ⟨ri, rs, rh, NK, rt, NT, rn, Nn, te, rc, NC, rm, Nm, ce + pts k * ρ, ls.set s (ce, ρ), ⟨⟨by rw [eF]; exact i1, by rw [eD]; exact i2⟩, ⟨by rw [eF]; exact i3, by rw [eD]; exact i4⟩, ⟨by rw [eF]; exact i5, by rw [eD]; exact i6⟩, i7, i8⟩, ⟨⟨by rw [eF]; exact t1, by rw [eD]; exact t2⟩, ⟨by rw [eF]; exact t3, by rw [eD]; exact t4⟩, t5, t6, t7, t8, (o59 9 (by decide)).trans t9, t10⟩, ⟨⟨by rw [eF]; exact c1, by rw [eD]; exact c2⟩, ⟨by rw [eF]; exact c3, by rw [eD]; exact c4⟩, c5, c6, c7, c8, (eW 59 12).trans (if_pos ⟨rfl, rfl⟩), hft⟩, ?_, ?_, (o59 14 (by decide)).trans a6, (o59 15 (by decide)).trans a7⟩, ⟨ρ, w8, hnρ, by omega⟩, ow.same (fun p _ => by rw [eF]), po.same (fun p hp => kl_eq ty ex hp (by rw [eF])) (fun b q => ?_) (o59 6 (by decide)) ⟨by rw [e2], by rw [e2]⟩, Ch.tr ty0 (by decide) ch ⟨ex, fun h x h1 h2 h3 => ?_, fun g h1 h2 h3 => ?_, fun p _ _ _ => Or.inl (by rw [eF])⟩⟩
    · have e := hIX.upd (u := w) (r' := (v, k, n, _, _, _, t, cs)) hs rfl (o59 13 (by decide)) (o59 6 (by decide)) (funext fun x => eo ri x (fun z => (p2 ri (by simp)).1.2 (by rw [z]; exact v1)) (fun z => (p2 ri (by simp)).2 z.1)) (funext fun x => eo rs x (fun z => (p2 rs (by simp)).1.2 (by rw [z]; exact v1)) (fun z => (p2 rs (by simp)).2 z.1)) (by rw [eF])
      rw [set_self hs] at e; exact e
    · have e := a5.upd (u := w) (te' := te) (ce' := ce + pts k * ρ) (r' := (v, k, n, _, _, _, t, cs)) (l' := (ce, ρ)) hIX.2.2.2.2.2 hs hl (Nat.le_refl _) (by omega) ⟨by rw [eD]; exact Nat.le_refl _, by rw [eD]; exact Nat.le_refl _⟩ (fun v' hv' => by rw [eD]; exact hv') (fun v' x hv' z => ⟨eo v' x z (fun y => k11 ty hv' (show 59 < 76 by decide) y.1.symm), by rw [eL v' (fun y => (p2 rc (by simp)).1.2 (by rw [← y]; exact hv'))]⟩) (fun j hj _ => eo rt j (fun z => (p2 rt (by simp)).1.2 (by rw [z]; exact v1)) (fun z => (p2 rt (by simp)).2 z.1)) (fun j hj _ => by rw [eLc]; exact q4 j hj) ⟨⟨by rw [eD]; exact v1, v2, (wo 1 (by decide) (by decide)).trans v3, (wo 2 (by decide) (by decide)).trans v4, by rw [eL v (fun z => nrv z.symm)]; exact v5, (wo 4 (by decide) (by decide)).trans v6, (wo 5 (by decide) (by decide)).trans v7⟩, ⟨(wo 6 (by decide) (by decide)).trans w1, w7, w8⟩, (show n ≤ ρ by omega), fun z => absurd z hk, fun _ => ⟨y1, Or.inl hcs, Or.inl (Nat.le_refl _), fun p q hp => ?_⟩⟩ (fun i q k2 hi hq hk2 => ?_)
      · rw [set_self hs] at e; exact e
      · rw [eLc]
        refine q5 p q ?_ hp
        rw [← hcs]; exact (List.getElem?_eq_some_iff.mp hp).1
      · intro z
        have z0 : ¬ q.2.1 = 0 := fun y => hk (z.mpr y)
        right
        unfold spc; rw [if_neg z0]
        rcases ((a5.2.1 i q k2 hq hk2).2.2.2.2 z0).2.2.1 with y | y
        · exact Or.inl y
        · exact Or.inr (Or.inr y.2.1)
    · have hb : ∀ b ∈ OWb, b < 76 ∧ ¬ b = 59 := by decide
      exact eo b 2 (k11 ty v1 (hb b q).1) (fun z => (hb b q).2 z.1)
    · have n1 : ¬ h = v := fun z => h2 rfl (by rw [z, v1])
      have n2 : ¬ h = rc := fun z => by rw [z, c2] at h1; exact absurd h1 (show ¬ (23 : Nat) < 20 by decide)
      exact ⟨eo h x n1 (fun z => h3 (by rw [z.1, z.2]; decide)), by rw [eL h n2], by rw [eF]⟩
    · have n1 : ¬ g = v := fun z => by rw [z, v1] at h1; exact absurd h1 (by decide)
      refine ⟨funext fun x => eo g x n1 (fun z => ?_), eL g (fun z => h3 (59, 10) (by decide) (by rw [z]; exact c1)), by rw [eF]⟩
      rw [z.1, ty.k (h := 59) (by decide) rfl] at h1; exact absurd h1 (by decide)
  exact go2 _ ty1''' rfl
theorem k_growCells (ty : kTY σ) (ow : OWN σ) (po : POT σ) {il sl : List Nat} {vs : List VR} {M T : Int32} (h : RST σ il sl vs M T) {s v k n : Nat} {w c : Int32} {e : Int64} {t : List Int32} {cs : List (List Int64)} (hs : vs[s]? = some (v, k, n, w, c, e, t, cs)) (hk : ¬ k = 0) (hcs : cs.length = pts k) (hcap : pts k * (2 * n + 1) + clS vs ≤ 49152) (x2 : Int32) (e2 : x2 = nI (n + 1)) :
    kjY kPP (kQQ Y) (d + 2) 143 0 (mjL0 6 [.ref 59, .ref v, .int x2]) [] σ (gcP σ il sl vs M T v n) := by
  have ho := h
  obtain ⟨ri, rs, rh, NK, rt, NT, rn, Nn, te, rc, NC, rm, Nm, ce, ls, hG⟩ := h
  obtain ⟨l, hl, hV, g1, g2, g3, g4, g5, g6, g7⟩ := hG.v hs
  obtain ⟨⟨c1, c2⟩, ⟨c3, c4⟩, c5, c6, c7, c8, c9, c10⟩ := hG.2.2.1
  obtain ⟨⟨v1, v2, v3, v4, -⟩, ⟨w1, w2, w3⟩, x1, -, -⟩ := hV
  have v1 : σ.2.2.2.1 v = (11, 0) := v1
  have v4 : σ.1 v 2 = nI (pts k) := v4
  have w3 : σ.1 v 8 = nI l.2 := w3
  have x1 : n ≤ l.2 := x1
  have g3 : n ≤ 131072 := g3
  have kv : (σ.2.2.2.1 v).1 = 11 := by rw [v1]
  have hpp := pts_pos hk
  have hm1 : n ≤ pts k * n := by have := Nat.mul_le_mul_right n hpp; omega
  have hat := clS_at hs
  have hat : clS (vs.take s) + pts k * n ≤ clS vs := hat
  refine kjZ_y rfl rfl 4 _ _ _ _ ty ?_
  refine (And.intro (by assumption) (And.intro (fun o => ?_) (fun o => ?_)))
  rotate_left
  · refine kjZ_y rfl rfl 1 _ _ _ _ ty ?_
    refine And.intro rfl (And.intro rfl ?_)
    have o : ¬ σ.1 v 8 < x2 := o
    rw [w3, e2, nlt (by omega) (by omega)] at o
    exact ⟨rfl, ho, ⟨l.2, w3, by omega, by omega⟩, ow, po, Ch.rf⟩
  have o : σ.1 v 8 < x2 := o
  rw [w3, e2, nlt (by omega) (by omega)] at o
  refine kjZ_y rfl rfl 6 _ _ _ _ ty ?_
  refine (And.intro (by assumption) (And.intro (Nat.le_of_ble_eq_true rfl) (And.intro (Nat.le_of_ble_eq_true rfl) (And.intro (Nat.le_of_ble_eq_true rfl) (kjY_mono ty (fun q_ u2 ty2 xu2 h_ => ?_) (k_max ty _ _))))))
  obtain ⟨rfl, rfl⟩ := h_
  intro _ _
  have eM : (if x2 < Int32.ofInt 2 * u2.1 v 8 then Int32.ofInt 2 * u2.1 v 8 else x2) = nI (max (n + 1) (2 * l.2)) := by
    rw [w3, nI_2, e2]
    by_cases q : n + 1 < 2 * l.2
    · rw [if_pos (nI_lt q (by omega))]; congr 1; omega
    · rw [if_neg (Int32.not_lt.mpr (nI_le (by omega) (by omega)))]; congr 1; omega
  refine kjZ_y rfl rfl 6 _ _ _ _ ty2 ?_
  refine (And.intro (Nat.le_of_ble_eq_true rfl) (And.intro (by assumption) (And.intro (Nat.le_of_ble_eq_true rfl) ?_)))
  have go : ∀ x3 x4, x3 = nI (max (n + 1) (2 * l.2)) → x4 = u2.1 v 2 * x3 → kjY kPP (kQQ Y) (d + 2) 143 17 [some (.ref 59), some (.ref v), some (.int x2), some (.int x3), some (.int x4), none] [] u2 (gcP u2 il sl vs M T v n) := by
    intro x3 x4 e3 e4
    obtain ⟨ρ, eρ⟩ : ∃ ρ, ρ = max (n + 1) (2 * l.2) := ⟨_, rfl⟩
    rw [← eρ] at e3
    have hρ : ρ ≤ 2 * n + 1 := by omega
    have hm2 : pts k * ρ ≤ pts k * (2 * n + 1) := Nat.mul_le_mul_left _ hρ
    have hm3 : ρ ≤ pts k * ρ := by have := Nat.mul_le_mul_right ρ hpp; omega
    have e4 : x4 = nI (pts k * ρ) := by rw [e4, v4, e3, pk_mul]
    refine kjZ_y rfl rfl 8 _ _ _ _ ty2 ?_
    refine (And.intro (ty2.k (by decide) rfl) (Exists.intro _ (And.intro c1 (Or.inl (And.intro (kdq c2) (And.intro (ty2.k (by decide) rfl) (And.intro (fun o2 => ?_) (fun o2 => ?_))))))))
    · have o2 : x4 ≤ nI (u2.2.2.2.1 rc).2 - u2.1 59 12 := o2
      rw [c2, c9, e4, pk_sub (by omega), nle (by omega) (by omega)] at o2
      refine k_moveC (d := d + 1) ty2 ty2 ow po ho hs hk hcs (ρ := ρ) (by omega) (by omega) (fun rc' NC' ce' q1 q2 q3 q4 => ?_) Ch.rf x2 x3 x4 none e3 e4
      rw [c1] at q1; cases q1
      rw [c2] at q2
      have e7 : NC = NC' := congrArg Prod.snd q2
      rw [c9] at q3
      have e8 : ce = ce' := (nI_eq (by omega) (by omega)).mp q3
      omega
    · refine kjZ_y rfl rfl 3 _ _ _ _ ty2 ?_
      refine (And.intro (Nat.le_of_ble_eq_true rfl) (And.intro (Or.inl ⟨(Nat.le_of_ble_eq_true rfl), (ty2.k (by decide) rfl)⟩) (And.intro (Nat.le_of_ble_eq_true rfl) (And.intro (Nat.le_of_ble_eq_true rfl) (kjY_mono ty2 (fun q_ u3 ty3 xu3 h_ => ?_) (k_packCells ty2 ow po ho (m := pts k * ρ) (by omega) _ e4))))))
      obtain ⟨rfl, q1, q2, ⟨rc', NC', q3, q4, q5⟩, q6, q7, q8⟩ := h_
      intro _ _
      refine k_moveC (d := d + 1) ty2 ty3 q6 q7 q1 hs hk hcs (ρ := ρ) (by omega) (by omega) (fun rc2 NC2 ce2 r1 r2 r3 r4 => ?_) q8 x2 x3 x4 none e3 e4
      rw [q3] at r1; cases r1
      rw [q4] at r2
      have e7 : NC' = NC2 := congrArg Prod.snd r2
      rw [q2] at r3
      have hNC : NC' ≤ 65536 := by
        obtain ⟨_, _, _, _, _, _, _, _, _, rc9, NC9, _, _, _, _, hG9⟩ := q1
        obtain ⟨-, -, ⟨⟨z1, z2⟩, -, -, -, z5, -⟩, -⟩ := hG9
        rw [q3] at z1; cases z1
        rw [q4] at z2; rw [show NC' = NC9 from congrArg Prod.snd z2]; exact z5
      have e8 : clS vs = ce2 := (nI_eq (by omega) (by omega)).mp r3
      omega
  exact go _ _ eM rfl
end KGROWC
