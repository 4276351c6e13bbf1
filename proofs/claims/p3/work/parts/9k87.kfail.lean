/-! The rest of what was sent; a request that is none. -/
def opO : List (Nat × Nat) := CNs.flatMap (fun c => [(c + 1, 1), (c + 3, 1)])
def opG : List (Nat × Nat) := opF ++ opO
theorem opO_ok : ∀ p ∈ opO, p ∈ OWs := by decide +kernel
theorem opG_ok : ∀ p ∈ opG, p.1 < 76 ∧ (kd0 p.1).1 < 20 ∧ ¬ p.1 ∈ [0, 1, 5, 7, 53, 59] := by decide +kernel
theorem opG_in : ∀ c ∈ CNs, ∀ x ∈ [1, 2, 3], (c + 1, x) ∈ opG ∧ (c + 3, x) ∈ opG ∧ (c + 1, 1) ∈ opO ∧ (c + 3, 1) ∈ opO := by decide +kernel
section KFAIL
variable {Y : Nat → MethodName × ByteArray} {d : Nat} {σ u : kS} {B ws nm nm' : List (List Int32)} {ks ks' : List KC}
theorem iC.chG (ty : kTY σ) (a : iC opF σ u) : Ch true opG opO σ u := (a.ch ty).up (fun z => z) (fun p hp => List.mem_append_left _ hp) (fun p hp => by cases hp)
theorem Ch.bG {b : Nat} (h : ∀ x ∈ [1, 2, 3], (b, x) ∈ opG) (ho : (b, 1) ∈ opO) (ch : Ch false [(b, 1), (b, 2), (b, 3)] [(b, 1)] σ u) : Ch true opG opO σ u :=
  ch.up (fun _ => rfl) (fun p hp => by
    rcases List.mem_cons.mp hp with z | hp
    · rw [z]; exact h 1 (by decide)
    · rcases List.mem_cons.mp hp with z | hp
      · rw [z]; exact h 2 (by decide)
      · rw [List.mem_singleton.mp hp]; exact h 3 (by decide)) (fun p hp => by rw [List.mem_singleton.mp hp]; exact ho)
theorem BLK.chG (h : BLK σ) (ty : kTY σ) (ch : Ch true opG opO σ u) : BLK u := fun c hc => by
  obtain ⟨bk, h1, h2⟩ := h c hc
  have q : ∀ c ∈ CNs, c < 76 ∧ (kd0 c).1 = 1 ∧ ¬ (c, 3) ∈ opG := by decide +kernel
  exact ⟨bk, h1, by rw [(ch.fld ty (q c hc).1 (q c hc).2.1 (by decide) (q c hc).2.2).2.2]; exact h2⟩
theorem BLJ.chG (h : BLJ σ) (ty : kTY σ) (ch : Ch true opG opO σ u) : BLJ u := by
  have q : ∀ c ∈ CNs, c < 76 ∧ (kd0 c).1 = 1 ∧ ¬ (c, 3) ∈ opG := by decide +kernel
  have e : ∀ c ∈ CNs, u.2.2.1 c 3 = σ.2.2.1 c 3 := fun c hc => (ch.fld ty (q c hc).1 (q c hc).2.1 (by decide) (q c hc).2.2).2.2
  exact ⟨h.1.chG ty ch, fun c hc c' hc' z => h.2 c hc c' hc' (by rw [e c hc, e c' hc'] at z; exact z)⟩
theorem kx_keepRest (ty : kTY σ) (g : KG B σ nm ks) (hb : BLJ σ) {c : Nat} (hc : c ∈ CNs) {l : List Int32} (hl : kBY σ (c + 1) l) {i : Nat} (hi : i ≤ 100000000) (x : Int32) (ex : x = nI i) : kjY kPP (kQQ Y) (d + 3) 21 0 (mjL0 3 [.ref 0, .ref c, .int x]) [] σ (fun r u => r = none ∧ KG B u nm ks ∧ Ch true opG opO σ u ∧ CQ [c] σ u ∧ ((σ.1 c 0 = 0 ∧ u = σ) ∨ (¬ σ.1 c 0 = 0 ∧ ∃ l', kBY u (c + 1) l' ∧ l'.length ≤ (l.drop i).length ∧ (u.1 (c + 1) 3 = σ.1 (c + 1) 3 ∨ u.1 (c + 1) 3 = 0)))) := by
  obtain ⟨q1, q2, q3, q4, q5, -⟩ := CN_ok c hc
  have kc : (σ.2.2.2.1 c).1 = 1 := ty.k q1 q2
  have kin := ob_k ty q3
  obtain ⟨r, N, hr⟩ := hl
  have hN := hr.2.2.1.2
  have hlN := hr.2.2.2.2.2.1
  refine kjZ_y rfl rfl 3 _ _ _ _ ty ?_
  refine (And.intro (by assumption) (And.intro (fun c1 => ?_) (fun c1 => ?_)))
  rotate_left
  · refine kjZ_y rfl rfl 1 _ _ _ _ ty ?_
    refine And.intro rfl (And.intro rfl ?_)
    exact ⟨rfl, g, Ch.rf, CQ.rf, Or.inl ⟨Classical.not_not.mp c1, rfl⟩⟩
  refine kjZ_y rfl rfl 4 _ _ _ _ ty ?_
  refine (And.intro (by assumption) (And.intro (Nat.le_of_ble_eq_true rfl) (And.intro (Or.inl ⟨(Nat.le_of_ble_eq_true rfl), (by assumption)⟩) (And.intro (Nat.le_of_ble_eq_true rfl) (And.intro (Nat.le_of_ble_eq_true rfl) (kjY_mono ty (fun q_ u1 ty1 xu1 h_ => ?_) (k_drop (d := d + 1) ty g.1.1 g.1.2 q3 hr (k := i) hi x ex)))))))
  obtain ⟨rfl, w1, c3, o1, p1, q5'⟩ := h_
  intro _ _
  have hbr := br_ne ty q3 hr
  have f1 : u1.1 (c + 1) 3 = σ.1 (c + 1) 3 := w1.2 (c + 1) 3 hbr (fun z => absurd z.2 (by decide))
  have g1 := (g.by_ ty q3 c3.up2 o1 p1 ⟨r, N, q5'⟩).1
  have ch1 : Ch true opG opO σ u1 := Ch.bG (fun x hx => (opG_in c hc x hx).1) (opG_in c hc 1 (by decide)).2.2.1 c3.up2
  have a3 : ∀ c ∈ CNs, ∀ p ∈ [(c + 1, 2)], (∀ b ∈ payB, ¬ p.1 = b) ∧ ∀ c' ∈ CNs, (¬ p = (c', 3)) ∧ (¬ p = (c', 7)) ∧ (¬ c' ∈ [c] → (¬ p.1 = c' + 1) ∧ ¬ p = (c', 0)) := by decide +kernel
  have a4 : ∀ c ∈ CNs, ∀ p ∈ [(c + 1, 1)], p ∈ OWs ∧ (∀ b ∈ payB, ¬ p.1 = b) ∧ ∀ c' ∈ CNs, ¬ c' ∈ [c] → ¬ p.1 = c' + 1 := by decide +kernel
  have cq1 : CQ [c] σ u1 := CQ.chX ty g.1.1 c3 (a3 c hc) (a4 c hc)
  have kc1 : (u1.2.2.2.1 c).1 = 1 := ty1.k q1 q2
  have kin1 := ob_k ty1 q3
  have h2 : u1.1 (c + 1) 2 = nI (l.drop i).length := q5'.2.2.2.2.1
  have hd : (l.drop i).length ≤ 600000 := by rw [List.length_drop]; omega
  refine kjZ_y rfl rfl 5 _ _ _ _ ty1 ?_
  refine (And.intro (by assumption) (And.intro (by assumption) (And.intro (fun c2 => ?_) (fun c2 => ?_))))
  · refine kjZ_y rfl rfl 1 _ _ _ _ ty1 ?_
    refine And.intro rfl (And.intro rfl ?_)
    exact ⟨rfl, g1, ch1, cq1, Or.inr ⟨c1, l.drop i, ⟨r, N, q5'⟩, Nat.le_refl _, Or.inl f1⟩⟩
  · refine kjZ_y rfl rfl 2 _ _ _ _ ty1 ?_
    refine (And.intro (Nat.le_of_ble_eq_true rfl) (And.intro (Or.inl ⟨(Nat.le_of_ble_eq_true rfl), (by assumption)⟩) (And.intro (Nat.le_of_ble_eq_true rfl) (And.intro (Nat.le_of_ble_eq_true rfl) (kjY_mono ty1 (fun q_ u2 ty2 xu2 h_ => ?_) (kC_close (d := d) ty1 g1 (hb.chG ty ch1) hc))))))
    obtain ⟨rfl, g2, i2, n2, f2, -, cq2⟩ := h_
    intro _ _
    refine kjZ_y rfl rfl 1 _ _ _ _ ty2 ?_
    refine And.intro rfl (And.intro rfl ?_)
    exact ⟨rfl, g2, Ch.tr ty opO_ok ch1 (i2.chG ty1), cq1.tr (CQ.less cq2), Or.inr ⟨c1, [], n2, Nat.zero_le _, Or.inr f2⟩⟩
theorem kx_fail (ty : kTY σ) (g : KG B σ nm ks) (hb : BLJ σ) {c : Nat} (hc : c ∈ CNs) (x : Int32) : kjY kPP (kQQ Y) (d + 7) 66 0 (mjL0 2 [.ref c, .int x]) [] σ (fun r u => r = none ∧ KG B u nm ks ∧ Ch true opG opO σ u ∧ kBY u (c + 1) [] ∧ u.1 (c + 1) 3 = 0 ∧ u.1 c 0 = 0 ∧ CQ [] σ u) := by
  obtain ⟨q1, q2, q3, q4, q5, -⟩ := CN_ok c hc
  have kc : (σ.2.2.2.1 c).1 = 1 := ty.k q1 q2
  have ko := ob_k ty q4
  have hn : c + 3 ∈ ANn := by
    have : ∀ c ∈ CNs, c + 3 ∈ ANn := by decide
    exact this c hc
  obtain ⟨l, hl⟩ := g.2.2.2.1 (c + 3) q4
  have fin : ∀ i, i < 185 → kjY kPP (kQQ Y) (d + 7) 66 24 [some (.ref c), some (.int x)] [.ref (2000000 + i), .int 45, .ref (c + 3)] σ (fun r u => r = none ∧ KG B u nm ks ∧ Ch true opG opO σ u ∧ kBY u (c + 1) [] ∧ u.1 (c + 1) 3 = 0 ∧ u.1 c 0 = 0 ∧ CQ [] σ u) := by
    intro i hi
    refine kjZ_y rfl rfl 1 _ _ _ _ ty ?_
    refine (And.intro (Nat.le_of_ble_eq_true rfl) (And.intro (Or.inl ⟨(Nat.le_of_ble_eq_true rfl), (by assumption)⟩) (And.intro (Nat.le_of_ble_eq_true rfl) (And.intro (Nat.le_of_ble_eq_true rfl) (kjY_mono ty (fun q_ u1 ty1 xu1 h_ => ?_) (k_line (d := d) ty g.1.1 q4 hl _ hi (opQ_an hn g.1.2 l)))))))
    obtain ⟨rfl, c1, o1, p1, l1, h1, -⟩ := h_
    intro _ _
    have g1 := (g.by_ ty q4 c1 o1 p1 h1).1
    have ch1 : Ch true opG opO σ u1 := Ch.bG (fun x hx => (opG_in c hc x hx).2.1) (opG_in c hc 1 (by decide)).2.2.2 c1
    have kc1 : (u1.2.2.2.1 c).1 = 1 := ty1.k q1 q2
    refine kjZ_y rfl rfl 2 _ _ _ _ ty1 ?_
    refine (And.intro (Nat.le_of_ble_eq_true rfl) (And.intro (Or.inl ⟨(Nat.le_of_ble_eq_true rfl), (by assumption)⟩) (And.intro (Nat.le_of_ble_eq_true rfl) (And.intro (Nat.le_of_ble_eq_true rfl) (kjY_mono ty1 (fun q_ u2 ty2 xu2 h_ => ?_) (kC_close (d := d + 4) ty1 g1 (hb.chG ty ch1) hc))))))
    obtain ⟨rfl, g2, i2, n2, f2, e2, cq2⟩ := h_
    intro _ _
    refine kjZ_y rfl rfl 1 _ _ _ _ ty2 ?_
    refine And.intro rfl (And.intro rfl ?_)
    have a3 : ∀ c ∈ CNs, ∀ p ∈ [(c + 3, 1), (c + 3, 2), (c + 3, 3)], (∀ b ∈ payB, ¬ p.1 = b) ∧ ∀ c' ∈ CNs, (¬ p = (c', 3)) ∧ (¬ p = (c', 7)) ∧ (¬ c' ∈ ([] : List Nat) → (¬ p.1 = c' + 1) ∧ ¬ p = (c', 0)) := by decide +kernel
    have a4 : ∀ c ∈ CNs, ∀ p ∈ [(c + 3, 1)], p ∈ OWs ∧ (∀ b ∈ payB, ¬ p.1 = b) ∧ ∀ c' ∈ CNs, ¬ c' ∈ ([] : List Nat) → ¬ p.1 = c' + 1 := by decide +kernel
    exact ⟨rfl, g2, Ch.tr ty opO_ok ch1 (i2.chG ty1), n2, f2, e2, (CQ.chX ty g.1.1 c1 (a3 c hc) (a4 c hc)).tr cq2⟩
  refine kjZ_y rfl rfl 6 _ _ _ _ ty ?_
  refine (And.intro (by assumption) (And.intro (fun c1 => ?_) (fun c1 => ?_)))
  rotate_left
  · refine kjZ_y rfl rfl 2 _ _ _ _ ty ?_
    refine (And.intro rfl ?_)
    exact fin _ (by decide)
  refine kjZ_y rfl rfl 3 _ _ _ _ ty ?_
  refine And.intro (fun c1 => ?_) (fun c1 => ?_)
  rotate_left
  · refine kjZ_y rfl rfl 2 _ _ _ _ ty ?_
    refine (And.intro rfl ?_)
    exact fin _ (by decide)
  refine kjZ_y rfl rfl 3 _ _ _ _ ty ?_
  refine And.intro (fun c1 => ?_) (fun c1 => ?_)
  rotate_left
  · refine kjZ_y rfl rfl 2 _ _ _ _ ty ?_
    refine (And.intro rfl ?_)
    exact fin _ (by decide)
  refine kjZ_y rfl rfl 3 _ _ _ _ ty ?_
  refine And.intro (fun c1 => ?_) (fun c1 => ?_)
  rotate_left
  · refine kjZ_y rfl rfl 2 _ _ _ _ ty ?_
    refine (And.intro rfl ?_)
    exact fin _ (by decide)
  refine kjZ_y rfl rfl 1 _ _ _ _ ty ?_
  refine (And.intro rfl ?_)
  exact fin _ (by decide)
end KFAIL
