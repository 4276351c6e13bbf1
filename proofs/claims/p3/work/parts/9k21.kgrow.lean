/-! A row that is owned is made anew, longer. -/
theorem OWr_nd : OWr.Nodup := by decide
theorem POT.pay {σ : kS} {p : Nat × Nat} {c N : Nat} (hp : p ∈ OWr) (h : POT σ) (hn : kl σ p < c) (hc : c ≤ (kcapR p).1) (hN : c ≤ N ∧ 2 * kl σ p ≤ N ∧ N ≤ 2 * c) : N ≤ σ.2.2.2.2.2.2 ∧ 1 ≤ σ.2.2.2.2.2.1 ∧ N ≤ 470000 := by
  have hcap : ∀ p ∈ OWr, (kcapR p).2 = 2 * (kcapR p).1 ∧ (kcapR p).1 ≤ 235000 := by decide
  obtain ⟨z1, z2⟩ := hcap p hp
  have e := mem_sum (f := fun p => kphi (kcapR p).1 (kcapR p).2 (kl σ p)) hp
  have e2 : N ≤ kphi (kcapR p).1 (kcapR p).2 (kl σ p) := by unfold kphi; rw [if_neg (by omega)]; omega
  have e : kphi (kcapR p).1 (kcapR p).2 (kl σ p) ≤ potR σ := e
  have hR : p ∈ OWs := List.mem_append_right _ (List.mem_append_left _ hp)
  have g1 : 1 ≤ gcs σ := gcs_1 hR (by omega)
  obtain ⟨p1, p2⟩ := h
  omega
theorem POT.growR {σ u : kS} {p : Nat × Nat} {c N : Nat} (hp : p ∈ OWr) (h : POT σ) (hn : kl σ p < c) (hc : c ≤ (kcapR p).1) (hN : c ≤ N ∧ 64 ≤ N ∧ 2 * kl σ p ≤ N ∧ N ≤ 2 * c)
    (e0 : kl u p = N) (e1 : ∀ q ∈ OWs, ¬ q = p → kl u q = kl σ q) (e2 : ∀ b ∈ OWb, u.1 b 2 = σ.1 b 2) (e3 : u.1 59 6 = σ.1 59 6) (e4 : u.2.2.2.2.2.1 + 1 = σ.2.2.2.2.2.1 ∧ u.2.2.2.2.2.2 + N = σ.2.2.2.2.2.2) : POT u := by
  have hO : ∀ x ∈ OWb, (x, 1) ∈ OWs := fun x hx => ow_b hx
  have hR : ∀ x ∈ OWr, x ∈ OWs := fun x hx => List.mem_append_right _ (List.mem_append_left _ hx)
  have hcap : ∀ p ∈ OWr, (kcapR p).2 = 2 * (kcapR p).1 ∧ ¬ p.1 ∈ OWb ∧ ¬ p = (59, 7) ∧ ¬ p = (59, 8) ∧ ¬ p = (59, 10) ∧ ¬ p = (59, 11) := by decide
  obtain ⟨z1, z2, z3, z4, z5, z6⟩ := hcap p hp
  have a2 := sum_upd (f := fun p => kphi (kcapR p).1 (kcapR p).2 (kl σ p)) (g := fun p => kphi (kcapR p).1 (kcapR p).2 (kl u p)) (p := p) OWr_nd hp (fun x hx q => by
    show kphi _ _ (kl u x) = kphi _ _ (kl σ x); rw [e1 x (hR x hx) q])
  have a2 : potR u + kphi (kcapR p).1 (kcapR p).2 (kl σ p) = potR σ + kphi (kcapR p).1 (kcapR p).2 (kl u p) := a2
  have a1 : potB u (ksz u) = potB σ (ksz σ) := sum_eq fun x hx => by
    rw [e1 _ (hO x hx) (fun z => z2 (by rw [← z]; exact hx))]
    unfold ksz; rw [e2 x hx]
  have a3 : kmade u = kmade σ := by unfold kmade; rw [e3]
  have a4 : potT u = potT σ := by
    unfold potT
    rw [e1 (59, 7) (by decide) (fun z => z3 z.symm), e1 (59, 8) (by decide) (fun z => z4 z.symm), e1 (59, 10) (by decide) (fun z => z5 z.symm), e1 (59, 11) (by decide) (fun z => z6 z.symm), a3]
  have key : kphi (kcapR p).1 (kcapR p).2 N + N ≤ kphi (kcapR p).1 (kcapR p).2 (kl σ p) := by
    unfold kphi
    rw [if_neg (show ¬ (kcapR p).1 ≤ kl σ p by omega)]
    by_cases g : (kcapR p).1 ≤ N
    · rw [if_pos g]; omega
    · rw [if_neg g]; omega
  rw [e0] at a2
  have hcb : ∀ p ∈ OWr, (kcapR p).1 ≤ 235000 := by decide
  have hcb := hcb p hp
  have a5 : gcs u + 1 ≤ gcs σ := gcs_up (hR p hp) e1 (by
    rw [e0]; exact glg_lt (Or.inl hN.2.2.1) hN.2.1 (by omega))
  obtain ⟨h1, h2⟩ := h
  refine ⟨?_, ?_⟩
  · rw [a1, a4]; omega
  · rw [a3]; omega
/-- nothing of what was paid for has changed -/
theorem POT.same {σ u : kS} (h : POT σ) (e1 : ∀ p ∈ OWs, kl u p = kl σ p) (e2 : ∀ b ∈ OWb, u.1 b 2 = σ.1 b 2) (e3 : u.1 59 6 = σ.1 59 6) (e4 : u.2.2.2.2.2.1 = σ.2.2.2.2.2.1 ∧ u.2.2.2.2.2.2 = σ.2.2.2.2.2.2) : POT u :=
  POT_PO.mpr (PO.same (b := 1) (POT_PO.mp h) (by unfold ksz; rw [e2 1 (by decide)]; exact Nat.le_refl _) e1 (fun b hb _ => e2 b hb) e3 e4)
section KGROW
variable {Y : Nat → MethodName × ByteArray} {d : Nat} {σ : kS}
/-- the state behind a row's growth: the owner has the new thing, which begins as the old one -/
def grP (σ : kS) (p : Nat × Nat) (r N M k : Nat) (u : kS) : Prop := u.2.2.1 p.1 p.2 = some σ.2.2.2.2.1 ∧ u.2.2.2.1 σ.2.2.2.2.1 = (k, M) ∧ (∀ j, j < N → u.1 σ.2.2.2.2.1 j = σ.1 r j) ∧ (∀ h, h < σ.2.2.2.2.1 → u.1 h = σ.1 h ∧ u.2.1 h = σ.2.1 h ∧ u.2.2.2.1 h = σ.2.2.2.1 h) ∧ (∀ h y, h < σ.2.2.2.2.1 → ¬ (h, y) = p → u.2.2.1 h y = σ.2.2.1 h y) ∧ kEx σ u ∧ (u.2.2.2.2.2.1 + 1 = σ.2.2.2.2.2.1 ∧ u.2.2.2.2.2.2 + M = σ.2.2.2.2.2.2) ∧ u.2.2.2.2.1 = σ.2.2.2.2.1 + 1
theorem gr_of {k : Nat} {p : Nat × Nat} {r N M : Nat} (ty : kTY σ) (hr : r < σ.2.2.2.2.1) (hc : 1 ≤ σ.2.2.2.2.2.1 ∧ M ≤ σ.2.2.2.2.2.2) : grP σ p r N M k ((kUp (kNew σ k M).1 σ.2.2.2.2.1 (va_cpy ((kNew σ k M).1 r) ((kNew σ k M).1 σ.2.2.2.2.1) 0 0 N)), (kNew σ k M).2.1, kFu (kNew σ k M).2.2.1 p.1 p.2 (some σ.2.2.2.2.1), (kNew σ k M).2.2.2) := by
  refine ⟨?_, kUp_s, fun j hj => ?_, fun h hh => ⟨?_, kUp_n (by omega), kUp_n (by omega)⟩, fun h y hh hp => ?_, ?_, ?_, rfl⟩
  · show kFu _ p.1 p.2 _ p.1 p.2 = _; rw [kFu_at, if_pos ⟨rfl, rfl⟩]
  · show kUp (kNew σ k M).1 σ.2.2.2.2.1 _ σ.2.2.2.2.1 j = _
    rw [kUp_s, pk_cpy_in (by omega) (by omega)]
    show kUp σ.1 σ.2.2.2.2.1 _ r _ = _
    rw [kUp_n (by omega)]; exact congrArg (σ.1 r) (by omega)
  · show kUp (kNew σ k M).1 σ.2.2.2.2.1 _ h = _
    rw [kUp_n (by omega)]; exact kUp_n (by omega)
  · show kFu (kNew σ k M).2.2.1 p.1 p.2 _ h y = _
    rw [kFu_at, if_neg (fun z => hp (Prod.ext z.1 z.2))]
    show kUp σ.2.2.1 σ.2.2.2.2.1 _ h y = _
    rw [kUp_n (by omega)]
  · exact ⟨Nat.le_succ _, fun h hh => kUp_n (by omega), by show σ.2.2.2.2.1 + 1 + (σ.2.2.2.2.2.1 - 1) = _; omega, by show σ.2.2.2.2.2.2 - M ≤ _; omega⟩
  · show σ.2.2.2.2.2.1 - 1 + 1 = _ ∧ σ.2.2.2.2.2.2 - M + M = _; omega
theorem p76 (ty : kTY σ) {p : Nat × Nat} (hp : p ∈ OWs) : p.1 < σ.2.2.2.2.1 := by
  have q : ∀ p ∈ OWs, p.1 < 76 := by decide
  have := q p hp; have := ty.2.2.2.1; omega
theorem gr_ch {u : kS} {k : Nat} {p : Nat × Nat} {r N M : Nat} {vs : Bool} (ty : kTY σ) (hp : p ∈ OWs) (g : grP σ p r N M k u) : Ch vs [p] [p] σ u := by
  obtain ⟨g1, g2, g3, g4, g5, g6, g7, g8⟩ := g
  refine ⟨g6, fun h y h1 h2 h3 => ?_, fun b h1 h2 h3 => ?_, fun q hq b hb => ?_⟩
  · have hl := ty.lt (h := h) (by omega)
    obtain ⟨i1, i2, -⟩ := g4 h hl
    exact ⟨by rw [i1], by rw [i2], g5 h y hl (fun z => h3 (by rw [z]; exact List.mem_cons_self))⟩
  · have hl := ty.lt (h := b) (by omega)
    obtain ⟨i1, i2, -⟩ := g4 b hl
    refine ⟨i1, i2, funext fun y => g5 b y hl (fun z => ?_)⟩
    have q : ∀ p ∈ OWs, p.1 < 76 ∧ (kd0 p.1).1 < 20 := by decide
    have q1 := q p hp
    have z1 : b = p.1 := congrArg Prod.fst z
    rw [z1, ty.2.2.1 p.1 q1.1] at h1; omega
  · by_cases c : q = p
    · rw [c] at hb ⊢; rw [g1] at hb; cases hb; exact Or.inr (Or.inl (Nat.le_refl _))
    · exact Or.inl (g5 q.1 q.2 (p76 ty hq) c)
end KGROW
