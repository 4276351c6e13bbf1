/-! Value: what is read of a value; a cell comes, cells go. -/
section KVAL
variable {Y : Nat → MethodName × ByteArray} {d : Nat} {σ : kS}
theorem pts_pos {k : Nat} (h : ¬ k = 0) : 1 ≤ pts k := by unfold pts; rw [if_neg h]; split <;> first | omega | (split <;> omega)
/-- where a value stands -/
theorem VOK.lt {rt rc te ce : Nat} {r : VR} {l : Nat × Nat} (h : VOK σ rt rc te ce r l) (ht : te ≤ 131072) (hc : ce ≤ 65536) (hnt : (σ.2.2.2.1 rt).2 ≤ 131072) (hnc : (σ.2.2.2.1 rc).2 ≤ 65536) : l.1 ≤ 131072 ∧ l.2 ≤ 131072 ∧ r.2.2.1 ≤ 131072 := by
  have h1 := h.2.2.1
  by_cases z : r.2.1 = 0
  · have := h.2.2.2.1 z; omega
  · have a := (h.2.2.2.2 z).2.2.1
    have b := Nat.mul_le_mul_right l.2 (pts_pos z)
    omega
theorem RSG.v {il sl : List Nat} {vs : List VR} {M T : Int32} {ri rs rh NK rt NT rn Nn te rc NC rm Nm ce : Nat} {ls : List (Nat × Nat)} (h : RSG σ il sl vs M T ri rs rh NK rt NT rn Nn te rc NC rm Nm ce ls) {s : Nat} {r : VR} (hs : vs[s]? = some r) : ∃ l, ls[s]? = some l ∧ VOK σ rt rc te ce r l ∧ l.1 ≤ 131072 ∧ l.2 ≤ 131072 ∧ r.2.2.1 ≤ 131072 ∧ te ≤ NT ∧ NT ≤ 131072 ∧ ce ≤ NC ∧ NC ≤ 65536 := by
  obtain ⟨-, ⟨t1, t2, t3, t4, t5, t6, t7, t8⟩, ⟨c1, c2, c3, c4, c5, c6, c7, c8⟩, -, ⟨v1, v2, v3⟩, -, -⟩ := h
  have hl := (List.getElem?_eq_some_iff.mp hs).1
  have e : ls[s]? = some ls[s] := List.getElem?_eq_getElem (by omega)
  have hv := v2 s r _ hs e
  have hb := hv.lt (by omega) (by omega) (by rw [t1.2]; exact t5) (by rw [c1.2]; exact c5)
  exact ⟨_, e, hv, hb.1, hb.2.1, hb.2.2, t8, t5, c8, c5⟩
theorem nat_of {x : Int32} {n : Nat} (hn : n < 2 ^ 31) (q1 : ¬ x < 0) (q2 : x < nI n) : ∃ i, x = nI i ∧ i < n := by
  have c5 := Int32.lt_iff_toInt_lt.mp q2
  rw [nI_toInt hn] at c5
  have c6 : 0 ≤ x.toInt := Int32.le_iff_toInt_le.mp (Int32.not_lt.mp q1)
  have e : (x.toNatClampNeg : Int) = x.toInt := by unfold Int32.toNatClampNeg; exact Int.toNat_of_nonneg c6
  refine ⟨x.toNatClampNeg, Int32.toInt_inj.mp ?_, by omega⟩
  rw [nI_toInt (by omega)]; exact e.symm
theorem part_le {p k r : Nat} (h : p < pts k) : p * r + r ≤ pts k * r := by
  have := Nat.mul_le_mul_right r (show p + 1 ≤ pts k from h)
  rw [Nat.succ_mul] at this; exact this

theorem k_vat (ty : kTY σ) {il sl : List Nat} {vs : List VR} {M T : Int32} (h : RST σ il sl vs M T) {s : Nat} {r : VR} (hs : vs[s]? = some r) (x1 : Int32) :
    kjY kPP (kQQ Y) d 115 0 (mjL0 3 [.ref r.1, .int x1]) [] σ (fun v u => u = σ ∧ ∃ y : Int32, v = some (.int y) ∧ ∀ i q x, x1 = nI i → i < r.2.2.1 → (¬ r.2.1 = 0) → r.2.2.2.2.2.2.2[0]? = some q → q[i]? = some x → y = x.toInt32) := by
  obtain ⟨ri, rs, rh, NK, rt, NT, rn, Nn, te, rc, NC, rm, Nm, ce, ls, hG⟩ := h
  obtain ⟨l, hl, hV, g1, g2, g3, g4, g5, g6, g7⟩ := hG.v hs
  have fc := hG.2.2.1.1.1
  have kc := hG.2.2.1.1.2
  obtain ⟨⟨a1, a2, a3, a4, a5, a6, a7⟩, ⟨b1, b2, b3⟩, c1, c2, c3⟩ := hV
  have kv : (σ.2.2.2.1 r.1).1 = 11 := by rw [a1]
  have hno : (∀ i, x1 = nI i → i < r.2.2.1 → (¬ r.2.1 = 0) → 0 < pts r.2.1 → False) → kjY kPP (kQQ Y) d 115 17 [some (.ref r.1), some (.int x1), some (.int (σ.1 r.1 7 + x1))] [] σ (fun v u => u = σ ∧ ∃ y : Int32, v = some (.int y) ∧ ∀ i q x, x1 = nI i → i < r.2.2.1 → (¬ r.2.1 = 0) → r.2.2.2.2.2.2.2[0]? = some q → q[i]? = some x → y = x.toInt32) := by
    intro q
    refine kjZ_y rfl rfl 3 _ _ _ _ ty ?_
    refine And.intro rfl (And.intro (Or.inl rfl) ?_)
    refine ⟨rfl, _, rfl, fun i q2 x e1 e2 e3 e4 e5 => (q i e1 e2 e3 ?_).elim⟩
    exact cs_lt (c3 e3).2.1 e4
  refine kjZ_y rfl rfl 7 _ _ _ _ ty ?_
  refine (And.intro (by assumption) (And.intro (Nat.le_of_ble_eq_true rfl) (And.intro (fun c => ?_) (fun c => ?_))))
  · refine hno (fun i e1 e2 _ _ => ?_)
    exact absurd (show x1 < 0 from c) (by rw [e1]; exact nI_n0 (by omega))
  refine kjZ_y rfl rfl 4 _ _ _ _ ty ?_
  refine (And.intro (by assumption) (And.intro (fun d1 => ?_) (fun d1 => ?_)))
  · refine hno (fun i e1 e2 _ _ => ?_)
    exact absurd (show σ.1 r.1 6 ≤ x1 from d1) (by rw [e1, b1]; exact nI_ge (by omega) (by omega))
  obtain ⟨i, ei, hi⟩ := nat_of (n := r.2.2.1) (by omega) c (by have z := Int32.not_le.mp (show ¬ σ.1 r.1 6 ≤ x1 from d1); rw [b1] at z; exact z)
  have epl : σ.1 r.1 7 + x1 = nI (l.1 + i) := by rw [b2, ei, nI_add]
  refine kjZ_y rfl rfl 6 _ _ _ _ ty ?_
  refine (And.intro (by assumption) (And.intro (ty.k (by decide) rfl) (Exists.intro _ (And.intro fc (Or.inl (And.intro (kdq kc) (And.intro (fun d2 => ?_) (fun d2 => ?_))))))))
  rotate_left
  · refine hno (fun j e1 e2 e3 e4 => d2 ?_)
    show σ.1 r.1 7 + x1 < nI (σ.2.2.2.1 rc).2
    rw [kc, epl, nlt (by omega) (by omega)]
    have := (c3 e3).2.2.1
    have := part_le (r := l.2) e4
    omega
  have d3 : σ.1 r.1 7 + x1 < nI (σ.2.2.2.1 rc).2 := d2
  rw [kc, epl, nlt (by omega) (by omega)] at d3
  have vp : vp_in (σ.1 r.1 7 + x1) NC := by rw [epl]; exact vp_in_nI (by omega) (by omega)
  have cp : (σ.1 r.1 7 + x1).toNatClampNeg = l.1 + i := by rw [epl]; exact nI_clamp (by omega)
  refine kjZ_y rfl rfl 7 _ _ _ _ ty ?_
  refine (And.intro (by assumption) (And.intro (ty.k (by decide) rfl) (Exists.intro _ (And.intro fc (And.intro (kdk kc) (And.intro (kdv kc vp) (And.intro rfl (And.intro (Or.inl rfl) ?_))))))))
  refine ⟨rfl, _, rfl, fun j q x e1 e2 e3 e4 e5 => ?_⟩
  have ej : j = i := (nI_eq (by omega) (by omega)).mp (e1.symm.trans ei)
  rw [ej] at e5
  have w := wl_at ((c3 e3).2.2.2 0 q e4) e5
  rw [cp, ← w]; exact congrArg (fun t => (σ.2.1 rc t).toInt32) (by omega)

theorem k_voth (ty : kTY σ) {il sl : List Nat} {vs : List VR} {M T : Int32} (h : RST σ il sl vs M T) {s : Nat} {r : VR} (hs : vs[s]? = some r) (x1 : Int32) :
    kjY kPP (kQQ Y) d 116 0 (mjL0 3 [.ref r.1, .int x1]) [] σ (fun v u => u = σ ∧ ∃ y : Int32, v = some (.int y) ∧ ∀ i q x, x1 = nI i → i < r.2.2.1 → (¬ r.2.1 = 0) → r.2.2.2.2.2.2.2[1]? = some q → q[i]? = some x → y = x.toInt32) := by
  obtain ⟨ri, rs, rh, NK, rt, NT, rn, Nn, te, rc, NC, rm, Nm, ce, ls, hG⟩ := h
  obtain ⟨l, hl, hV, g1, g2, g3, g4, g5, g6, g7⟩ := hG.v hs
  have fc := hG.2.2.1.1.1
  have kc := hG.2.2.1.1.2
  obtain ⟨⟨a1, a2, a3, a4, a5, a6, a7⟩, ⟨b1, b2, b3⟩, c1, c2, c3⟩ := hV
  have kv : (σ.2.2.2.1 r.1).1 = 11 := by rw [a1]
  have hno : (∀ i, x1 = nI i → i < r.2.2.1 → (¬ r.2.1 = 0) → 1 < pts r.2.1 → False) → kjY kPP (kQQ Y) d 116 22 [some (.ref r.1), some (.int x1), some (.int (σ.1 r.1 7 + Int32.ofInt 1 * σ.1 r.1 8 + x1))] [] σ (fun v u => u = σ ∧ ∃ y : Int32, v = some (.int y) ∧ ∀ i q x, x1 = nI i → i < r.2.2.1 → (¬ r.2.1 = 0) → r.2.2.2.2.2.2.2[1]? = some q → q[i]? = some x → y = x.toInt32) := by
    intro q
    refine kjZ_y rfl rfl 3 _ _ _ _ ty ?_
    refine And.intro rfl (And.intro (Or.inl rfl) ?_)
    refine ⟨rfl, _, rfl, fun i q2 x e1 e2 e3 e4 e5 => (q i e1 e2 e3 ?_).elim⟩
    exact cs_lt (c3 e3).2.1 e4
  refine kjZ_y rfl rfl 12 _ _ _ _ ty ?_
  refine (And.intro (by assumption) (And.intro (by assumption) (And.intro (Nat.le_of_ble_eq_true rfl) (And.intro (fun c => ?_) (fun c => ?_)))))
  · refine hno (fun i e1 e2 _ _ => ?_)
    exact absurd (show x1 < 0 from c) (by rw [e1]; exact nI_n0 (by omega))
  refine kjZ_y rfl rfl 4 _ _ _ _ ty ?_
  refine (And.intro (by assumption) (And.intro (fun d1 => ?_) (fun d1 => ?_)))
  · refine hno (fun i e1 e2 _ _ => ?_)
    exact absurd (show σ.1 r.1 6 ≤ x1 from d1) (by rw [e1, b1]; exact nI_ge (by omega) (by omega))
  obtain ⟨i, ei, hi⟩ := nat_of (n := r.2.2.1) (by omega) c (by have z := Int32.not_le.mp (show ¬ σ.1 r.1 6 ≤ x1 from d1); rw [b1] at z; exact z)
  have epl : σ.1 r.1 7 + Int32.ofInt 1 * σ.1 r.1 8 + x1 = nI (l.1 + 1 * l.2 + i) := by rw [b2, b3, ei, show Int32.ofInt 1 * nI l.2 = nI (1 * l.2) from pk_mul 1 l.2, nI_add, nI_add]
  refine kjZ_y rfl rfl 6 _ _ _ _ ty ?_
  refine (And.intro (by assumption) (And.intro (ty.k (by decide) rfl) (Exists.intro _ (And.intro fc (Or.inl (And.intro (kdq kc) (And.intro (fun d2 => ?_) (fun d2 => ?_))))))))
  rotate_left
  · refine hno (fun j e1 e2 e3 e4 => d2 ?_)
    show σ.1 r.1 7 + Int32.ofInt 1 * σ.1 r.1 8 + x1 < nI (σ.2.2.2.1 rc).2
    rw [kc, epl, nlt (by omega) (by omega)]
    have := (c3 e3).2.2.1
    have := part_le (r := l.2) e4
    omega
  have d3 : σ.1 r.1 7 + Int32.ofInt 1 * σ.1 r.1 8 + x1 < nI (σ.2.2.2.1 rc).2 := d2
  rw [kc, epl, nlt (by omega) (by omega)] at d3
  have vp : vp_in (σ.1 r.1 7 + Int32.ofInt 1 * σ.1 r.1 8 + x1) NC := by rw [epl]; exact vp_in_nI (by omega) (by omega)
  have cp : (σ.1 r.1 7 + Int32.ofInt 1 * σ.1 r.1 8 + x1).toNatClampNeg = l.1 + 1 * l.2 + i := by rw [epl]; exact nI_clamp (by omega)
  refine kjZ_y rfl rfl 7 _ _ _ _ ty ?_
  refine (And.intro (by assumption) (And.intro (ty.k (by decide) rfl) (Exists.intro _ (And.intro fc (And.intro (kdk kc) (And.intro (kdv kc vp) (And.intro rfl (And.intro (Or.inl rfl) ?_))))))))
  refine ⟨rfl, _, rfl, fun j q x e1 e2 e3 e4 e5 => ?_⟩
  have ej : j = i := (nI_eq (by omega) (by omega)).mp (e1.symm.trans ei)
  rw [ej] at e5
  have w := wl_at ((c3 e3).2.2.2 1 q e4) e5
  rw [cp, ← w]

theorem k_vsc (ty : kTY σ) {il sl : List Nat} {vs : List VR} {M T : Int32} (h : RST σ il sl vs M T) {s : Nat} {r : VR} (hs : vs[s]? = some r) (x1 : Int32) :
    kjY kPP (kQQ Y) d 117 0 (mjL0 3 [.ref r.1, .int x1]) [] σ (fun v u => u = σ ∧ ∃ y : Int64, v = some (.long y) ∧ ∀ i q x, x1 = nI i → i < r.2.2.1 → (¬ r.2.1 = 0) → r.2.2.2.2.2.2.2[2]? = some q → q[i]? = some x → y = x) := by
  obtain ⟨ri, rs, rh, NK, rt, NT, rn, Nn, te, rc, NC, rm, Nm, ce, ls, hG⟩ := h
  obtain ⟨l, hl, hV, g1, g2, g3, g4, g5, g6, g7⟩ := hG.v hs
  have fc := hG.2.2.1.1.1
  have kc := hG.2.2.1.1.2
  obtain ⟨⟨a1, a2, a3, a4, a5, a6, a7⟩, ⟨b1, b2, b3⟩, c1, c2, c3⟩ := hV
  have kv : (σ.2.2.2.1 r.1).1 = 11 := by rw [a1]
  have hno : (∀ i, x1 = nI i → i < r.2.2.1 → (¬ r.2.1 = 0) → 2 < pts r.2.1 → False) → kjY kPP (kQQ Y) d 117 22 [some (.ref r.1), some (.int x1), some (.int (σ.1 r.1 7 + Int32.ofInt 2 * σ.1 r.1 8 + x1))] [] σ (fun v u => u = σ ∧ ∃ y : Int64, v = some (.long y) ∧ ∀ i q x, x1 = nI i → i < r.2.2.1 → (¬ r.2.1 = 0) → r.2.2.2.2.2.2.2[2]? = some q → q[i]? = some x → y = x) := by
    intro q
    refine kjZ_y rfl rfl 3 _ _ _ _ ty ?_
    refine And.intro rfl (And.intro rfl ?_)
    refine ⟨rfl, _, rfl, fun i q2 x e1 e2 e3 e4 e5 => (q i e1 e2 e3 ?_).elim⟩
    exact cs_lt (c3 e3).2.1 e4
  refine kjZ_y rfl rfl 12 _ _ _ _ ty ?_
  refine (And.intro (by assumption) (And.intro (by assumption) (And.intro (Nat.le_of_ble_eq_true rfl) (And.intro (fun c => ?_) (fun c => ?_)))))
  · refine hno (fun i e1 e2 _ _ => ?_)
    exact absurd (show x1 < 0 from c) (by rw [e1]; exact nI_n0 (by omega))
  refine kjZ_y rfl rfl 4 _ _ _ _ ty ?_
  refine (And.intro (by assumption) (And.intro (fun d1 => ?_) (fun d1 => ?_)))
  · refine hno (fun i e1 e2 _ _ => ?_)
    exact absurd (show σ.1 r.1 6 ≤ x1 from d1) (by rw [e1, b1]; exact nI_ge (by omega) (by omega))
  obtain ⟨i, ei, hi⟩ := nat_of (n := r.2.2.1) (by omega) c (by have z := Int32.not_le.mp (show ¬ σ.1 r.1 6 ≤ x1 from d1); rw [b1] at z; exact z)
  have epl : σ.1 r.1 7 + Int32.ofInt 2 * σ.1 r.1 8 + x1 = nI (l.1 + 2 * l.2 + i) := by rw [b2, b3, ei, show Int32.ofInt 2 * nI l.2 = nI (2 * l.2) from pk_mul 2 l.2, nI_add, nI_add]
  refine kjZ_y rfl rfl 6 _ _ _ _ ty ?_
  refine (And.intro (by assumption) (And.intro (ty.k (by decide) rfl) (Exists.intro _ (And.intro fc (Or.inl (And.intro (kdq kc) (And.intro (fun d2 => ?_) (fun d2 => ?_))))))))
  rotate_left
  · refine hno (fun j e1 e2 e3 e4 => d2 ?_)
    show σ.1 r.1 7 + Int32.ofInt 2 * σ.1 r.1 8 + x1 < nI (σ.2.2.2.1 rc).2
    rw [kc, epl, nlt (by omega) (by omega)]
    have := (c3 e3).2.2.1
    have := part_le (r := l.2) e4
    omega
  have d3 : σ.1 r.1 7 + Int32.ofInt 2 * σ.1 r.1 8 + x1 < nI (σ.2.2.2.1 rc).2 := d2
  rw [kc, epl, nlt (by omega) (by omega)] at d3
  have vp : vp_in (σ.1 r.1 7 + Int32.ofInt 2 * σ.1 r.1 8 + x1) NC := by rw [epl]; exact vp_in_nI (by omega) (by omega)
  have cp : (σ.1 r.1 7 + Int32.ofInt 2 * σ.1 r.1 8 + x1).toNatClampNeg = l.1 + 2 * l.2 + i := by rw [epl]; exact nI_clamp (by omega)
  refine kjZ_y rfl rfl 6 _ _ _ _ ty ?_
  refine (And.intro (by assumption) (And.intro (ty.k (by decide) rfl) (Exists.intro _ (And.intro fc (And.intro (kdk kc) (And.intro (kdv kc vp) (And.intro rfl (And.intro rfl ?_))))))))
  refine ⟨rfl, _, rfl, fun j q x e1 e2 e3 e4 e5 => ?_⟩
  have ej : j = i := (nI_eq (by omega) (by omega)).mp (e1.symm.trans ei)
  rw [ej] at e5
  have w := wl_at ((c3 e3).2.2.2 2 q e4) e5
  rw [cp, ← w]

theorem k_vls (ty : kTY σ) {il sl : List Nat} {vs : List VR} {M T : Int32} (h : RST σ il sl vs M T) {s : Nat} {r : VR} (hs : vs[s]? = some r) (x1 : Int32) :
    kjY kPP (kQQ Y) d 118 0 (mjL0 3 [.ref r.1, .int x1]) [] σ (fun v u => u = σ ∧ ∃ y : Int64, v = some (.long y) ∧ ∀ i q x, x1 = nI i → i < r.2.2.1 → (¬ r.2.1 = 0) → r.2.2.2.2.2.2.2[3]? = some q → q[i]? = some x → y = x) := by
  obtain ⟨ri, rs, rh, NK, rt, NT, rn, Nn, te, rc, NC, rm, Nm, ce, ls, hG⟩ := h
  obtain ⟨l, hl, hV, g1, g2, g3, g4, g5, g6, g7⟩ := hG.v hs
  have fc := hG.2.2.1.1.1
  have kc := hG.2.2.1.1.2
  obtain ⟨⟨a1, a2, a3, a4, a5, a6, a7⟩, ⟨b1, b2, b3⟩, c1, c2, c3⟩ := hV
  have kv : (σ.2.2.2.1 r.1).1 = 11 := by rw [a1]
  have hno : (∀ i, x1 = nI i → i < r.2.2.1 → (¬ r.2.1 = 0) → 3 < pts r.2.1 → False) → kjY kPP (kQQ Y) d 118 22 [some (.ref r.1), some (.int x1), some (.int (σ.1 r.1 7 + Int32.ofInt 3 * σ.1 r.1 8 + x1))] [] σ (fun v u => u = σ ∧ ∃ y : Int64, v = some (.long y) ∧ ∀ i q x, x1 = nI i → i < r.2.2.1 → (¬ r.2.1 = 0) → r.2.2.2.2.2.2.2[3]? = some q → q[i]? = some x → y = x) := by
    intro q
    refine kjZ_y rfl rfl 3 _ _ _ _ ty ?_
    refine And.intro rfl (And.intro rfl ?_)
    refine ⟨rfl, _, rfl, fun i q2 x e1 e2 e3 e4 e5 => (q i e1 e2 e3 ?_).elim⟩
    exact cs_lt (c3 e3).2.1 e4
  refine kjZ_y rfl rfl 12 _ _ _ _ ty ?_
  refine (And.intro (by assumption) (And.intro (by assumption) (And.intro (Nat.le_of_ble_eq_true rfl) (And.intro (fun c => ?_) (fun c => ?_)))))
  · refine hno (fun i e1 e2 _ _ => ?_)
    exact absurd (show x1 < 0 from c) (by rw [e1]; exact nI_n0 (by omega))
  refine kjZ_y rfl rfl 4 _ _ _ _ ty ?_
  refine (And.intro (by assumption) (And.intro (fun d1 => ?_) (fun d1 => ?_)))
  · refine hno (fun i e1 e2 _ _ => ?_)
    exact absurd (show σ.1 r.1 6 ≤ x1 from d1) (by rw [e1, b1]; exact nI_ge (by omega) (by omega))
  obtain ⟨i, ei, hi⟩ := nat_of (n := r.2.2.1) (by omega) c (by have z := Int32.not_le.mp (show ¬ σ.1 r.1 6 ≤ x1 from d1); rw [b1] at z; exact z)
  have epl : σ.1 r.1 7 + Int32.ofInt 3 * σ.1 r.1 8 + x1 = nI (l.1 + 3 * l.2 + i) := by rw [b2, b3, ei, show Int32.ofInt 3 * nI l.2 = nI (3 * l.2) from pk_mul 3 l.2, nI_add, nI_add]
  refine kjZ_y rfl rfl 6 _ _ _ _ ty ?_
  refine (And.intro (by assumption) (And.intro (ty.k (by decide) rfl) (Exists.intro _ (And.intro fc (Or.inl (And.intro (kdq kc) (And.intro (fun d2 => ?_) (fun d2 => ?_))))))))
  rotate_left
  · refine hno (fun j e1 e2 e3 e4 => d2 ?_)
    show σ.1 r.1 7 + Int32.ofInt 3 * σ.1 r.1 8 + x1 < nI (σ.2.2.2.1 rc).2
    rw [kc, epl, nlt (by omega) (by omega)]
    have := (c3 e3).2.2.1
    have := part_le (r := l.2) e4
    omega
  have d3 : σ.1 r.1 7 + Int32.ofInt 3 * σ.1 r.1 8 + x1 < nI (σ.2.2.2.1 rc).2 := d2
  rw [kc, epl, nlt (by omega) (by omega)] at d3
  have vp : vp_in (σ.1 r.1 7 + Int32.ofInt 3 * σ.1 r.1 8 + x1) NC := by rw [epl]; exact vp_in_nI (by omega) (by omega)
  have cp : (σ.1 r.1 7 + Int32.ofInt 3 * σ.1 r.1 8 + x1).toNatClampNeg = l.1 + 3 * l.2 + i := by rw [epl]; exact nI_clamp (by omega)
  refine kjZ_y rfl rfl 6 _ _ _ _ ty ?_
  refine (And.intro (by assumption) (And.intro (ty.k (by decide) rfl) (Exists.intro _ (And.intro fc (And.intro (kdk kc) (And.intro (kdv kc vp) (And.intro rfl (And.intro rfl ?_))))))))
  refine ⟨rfl, _, rfl, fun j q x e1 e2 e3 e4 e5 => ?_⟩
  have ej : j = i := (nI_eq (by omega) (by omega)).mp (e1.symm.trans ei)
  rw [ej] at e5
  have w := wl_at ((c3 e3).2.2.2 3 q e4) e5
  rw [cp, ← w]

/-- a cell comes to a place of a part -/
theorem k_put (ty : kTY σ) {v a r n p i rc NC : Nat} (kv : (σ.2.2.2.1 v).1 = 11) (fc : σ.2.2.1 59 10 = some rc) (kc : σ.2.2.2.1 rc = (23, NC)) (b1 : σ.1 v 6 = nI n) (b2 : σ.1 v 7 = nI a) (b3 : σ.1 v 8 = nI r) (hi : i ≤ n) (hNC : NC ≤ 65536) (ha : a + p * r + n + 1 ≤ NC) (x1 x2 : Int32) (x3 : Int64) (e1 : x1 = nI p) (e2 : x2 = nI i) :
    kjY kPP (kQQ Y) (d + 1) 120 0 (mjL0 7 [.ref v, .int x1, .int x2, .long x3]) [] σ (fun q u => q = none ∧ u.1 = σ.1 ∧ u.2.2 = σ.2.2 ∧ (∀ h, ¬ h = rc → u.2.1 h = σ.2.1 h) ∧ (∀ j, j < a + p * r + i → u.2.1 rc j = σ.2.1 rc j) ∧ u.2.1 rc (a + p * r + i) = x3 ∧ (∀ j, a + p * r + i < j → j ≤ a + p * r + n → u.2.1 rc j = σ.2.1 rc (j - 1)) ∧ ∀ j, a + p * r + n < j → u.2.1 rc j = σ.2.1 rc j) := by
  have epl : σ.1 v 7 + x1 * σ.1 v 8 + x2 = nI (a + p * r + i) := by rw [b2, b3, e1, e2, pk_mul, nI_add, nI_add]
  have eb : σ.1 v 6 - x2 = nI (n - i) := by rw [b1, e2, pk_sub hi]
  have ep1 : σ.1 v 7 + x1 * σ.1 v 8 + x2 + Int32.ofInt 1 = nI (a + p * r + i + 1) := by rw [epl]; exact nI_1 _
  have vp : vp_in (σ.1 v 7 + x1 * σ.1 v 8 + x2) NC := by rw [epl]; exact vp_in_nI (by omega) (by omega)
  have cp : (σ.1 v 7 + x1 * σ.1 v 8 + x2).toNatClampNeg = a + p * r + i := by rw [epl]; exact nI_clamp (by omega)
  refine kjZ_y rfl rfl 23 _ _ _ _ ty ?_
  refine (And.intro (by assumption) (And.intro (by assumption) (And.intro (Nat.le_of_ble_eq_true rfl) (And.intro (by assumption) (And.intro (Nat.le_of_ble_eq_true rfl) (And.intro (by assumption) (And.intro (ty.k (by decide) rfl) (Exists.intro _ (And.intro fc (Or.inl (And.intro (kdq kc) (And.intro (fun c => ?_) (fun c => ?_)))))))))))))
  · refine absurd (show nI (σ.2.2.2.1 rc).2 - (σ.1 v 7 + x1 * σ.1 v 8 + x2) ≤ σ.1 v 6 - x2 from c) ?_
    rw [kc, epl, eb, pk_sub (by omega), nle (by omega) (by omega)]; omega
  refine kjZ_y rfl rfl 12 _ _ _ _ ty ?_
  refine (And.intro (by assumption) (And.intro (ty.k (by decide) rfl) (Exists.intro _ (And.intro fc (And.intro (by assumption) (And.intro (ty.k (by decide) rfl) (Exists.intro _ (And.intro fc (Exists.intro (a + p * r + i) (Exists.intro (a + p * r + i + 1) (Exists.intro (n - i) (And.intro ⟨epl, ep1, eb⟩ (And.intro ⟨rfl, by rw [kc]; show _ ≤ NC; omega, by rw [kc]; show _ ≤ NC; omega⟩ (And.intro ⟨(Nat.le_of_ble_eq_true rfl), (Nat.le_of_ble_eq_true rfl)⟩ (Or.inr (And.intro (kdk kc) (fun ty' => ?_)))))))))))))))))
  have go : ∀ u, kTY u → u = (σ.1, kUp σ.2.1 rc (va_cpy (σ.2.1 rc) (σ.2.1 rc) (a + p * r + i) (a + p * r + i + 1) (n - i)), σ.2.2) → kjY kPP (kQQ Y) (d + 1) 120 35 [some (.ref v), some (.int x1), some (.int x2), some (.long x3), none, some (.int (σ.1 v 7 + x1 * σ.1 v 8 + x2)), some (.int (σ.1 v 6 - x2))] [] u (fun q u => q = none ∧ u.1 = σ.1 ∧ u.2.2 = σ.2.2 ∧ (∀ h, ¬ h = rc → u.2.1 h = σ.2.1 h) ∧ (∀ j, j < a + p * r + i → u.2.1 rc j = σ.2.1 rc j) ∧ u.2.1 rc (a + p * r + i) = x3 ∧ (∀ j, a + p * r + i < j → j ≤ a + p * r + n → u.2.1 rc j = σ.2.1 rc (j - 1)) ∧ ∀ j, a + p * r + n < j → u.2.1 rc j = σ.2.1 rc j) := by
    intro u tu eu
    have kv2 : (u.2.2.2.1 v).1 = 11 := by rw [eu]; exact kv
    have fc2 : u.2.2.1 59 10 = some rc := by rw [eu]; exact fc
    have kc2 : u.2.2.2.1 rc = (23, NC) := by rw [eu]; exact kc
    refine kjZ_y rfl rfl 7 _ _ _ _ tu ?_
    refine (And.intro (by assumption) (And.intro (tu.k (by decide) rfl) (Exists.intro _ (And.intro fc2 (And.intro (kdk kc2) (And.intro (kdv kc2 vp) (fun tu' => And.intro rfl (And.intro rfl ?_))))))))
    have eL : ∀ h j, mjLu u.2.1 rc (a + p * r + i) x3 h j = if h = rc ∧ j = a + p * r + i then x3 else if h = rc then va_cpy (σ.2.1 rc) (σ.2.1 rc) (a + p * r + i) (a + p * r + i + 1) (n - i) j else σ.2.1 h j := by
      intro h j
      rw [mjLu_at]
      by_cases z : h = rc ∧ j = a + p * r + i
      · rw [if_pos z, if_pos z]
      · rw [if_neg z, if_neg z, eu]
        show kUp σ.2.1 rc _ h j = _
        by_cases z2 : h = rc
        · rw [if_pos z2, z2, kUp_s]
        · rw [if_neg z2, kUp_n z2]
    rw [cp]
    refine ⟨rfl, by rw [eu], by rw [eu], fun h z => funext fun j => (eL h j).trans ?_, fun j hj => (eL rc j).trans ?_, (eL rc _).trans (if_pos ⟨rfl, rfl⟩), fun j h1 h2 => (eL rc j).trans ?_, fun j h1 => (eL rc j).trans ?_⟩
    · rw [if_neg (fun q => z q.1), if_neg z]
    · rw [if_neg (fun q => by omega), if_pos rfl, pk_cpy_out (Or.inl (by omega))]
    · rw [if_neg (fun q => by omega), if_pos rfl, pk_cpy_in (by omega) (by omega)]; exact congrArg (σ.2.1 rc) (by omega)
    · rw [if_neg (fun q => by omega), if_pos rfl, pk_cpy_out (Or.inr (by omega))]
  exact go _ ty' rfl
/-- cells of a part go -/
theorem k_cutv (ty : kTY σ) {v a r n p i m rc NC : Nat} (kv : (σ.2.2.2.1 v).1 = 11) (fc : σ.2.2.1 59 10 = some rc) (kc : σ.2.2.2.1 rc = (23, NC)) (b1 : σ.1 v 6 = nI n) (b2 : σ.1 v 7 = nI a) (b3 : σ.1 v 8 = nI r) (hi : i + m ≤ n) (hNC : NC ≤ 65536) (ha : a + p * r + n ≤ NC) (x1 x2 x3 : Int32) (e1 : x1 = nI p) (e2 : x2 = nI i) (e3 : x3 = nI m) :
    kjY kPP (kQQ Y) (d + 1) 121 0 (mjL0 6 [.ref v, .int x1, .int x2, .int x3]) [] σ (fun q u => q = none ∧ u.1 = σ.1 ∧ u.2.2 = σ.2.2 ∧ (∀ h, ¬ h = rc → u.2.1 h = σ.2.1 h) ∧ (∀ j, j < a + p * r + i → u.2.1 rc j = σ.2.1 rc j) ∧ (∀ j, a + p * r + i ≤ j → j + m < a + p * r + n → u.2.1 rc j = σ.2.1 rc (j + m)) ∧ ∀ j, a + p * r + n ≤ j → u.2.1 rc j = σ.2.1 rc j) := by
  have epl : σ.1 v 7 + x1 * σ.1 v 8 + x2 = nI (a + p * r + i) := by rw [b2, b3, e1, e2, pk_mul, nI_add, nI_add]
  have eb : σ.1 v 6 - x2 - x3 = nI (n - i - m) := by rw [b1, e2, e3, pk_sub (by omega), pk_sub (by omega)]
  have ep1 : σ.1 v 7 + x1 * σ.1 v 8 + x2 + x3 = nI (a + p * r + i + m) := by rw [epl, e3, nI_add]
  refine kjZ_y rfl rfl 27 _ _ _ _ ty ?_
  refine (And.intro (by assumption) (And.intro (by assumption) (And.intro (Nat.le_of_ble_eq_true rfl) (And.intro (by assumption) (And.intro (Nat.le_of_ble_eq_true rfl) (And.intro (by assumption) (And.intro (ty.k (by decide) rfl) (Exists.intro _ (And.intro fc (Or.inl (And.intro (kdq kc) (And.intro (fun c => ?_) (fun c => ?_)))))))))))))
  · refine absurd (show nI (σ.2.2.2.1 rc).2 - (σ.1 v 7 + x1 * σ.1 v 8 + x2) < x3 + (σ.1 v 6 - x2 - x3) from c) ?_
    rw [kc, epl, eb, e3, pk_sub (by omega), nI_add, nlt (by omega) (by omega)]; omega
  refine kjZ_y rfl rfl 13 _ _ _ _ ty ?_
  refine (And.intro (by assumption) (And.intro (ty.k (by decide) rfl) (Exists.intro _ (And.intro fc (And.intro (by assumption) (And.intro (ty.k (by decide) rfl) (Exists.intro _ (And.intro fc (Exists.intro (a + p * r + i + m) (Exists.intro (a + p * r + i) (Exists.intro (n - i - m) (And.intro ⟨ep1, epl, eb⟩ (And.intro ⟨rfl, by rw [kc]; show _ ≤ NC; omega, by rw [kc]; show _ ≤ NC; omega⟩ (And.intro ⟨(Nat.le_of_ble_eq_true rfl), (Nat.le_of_ble_eq_true rfl)⟩ (Or.inr (And.intro (kdk kc) (fun ty' => And.intro rfl (And.intro rfl ?_))))))))))))))))))
  refine ⟨rfl, rfl, rfl, fun h z => kUp_n z, fun j hj => ?_, fun j h1 h2 => ?_, fun j h1 => ?_⟩
  · show kUp σ.2.1 rc _ rc j = _; rw [kUp_s, pk_cpy_out (Or.inl (by omega))]
  · show kUp σ.2.1 rc _ rc j = _; rw [kUp_s, pk_cpy_in (by omega) (by omega)]; exact congrArg (σ.2.1 rc) (by omega)
  · show kUp σ.2.1 rc _ rc j = _; rw [kUp_s, pk_cpy_out (Or.inr (by omega))]
end KVAL
