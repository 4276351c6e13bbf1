/-! The class's small calls. -/
section KFACE
variable {Y : Nat → MethodName × ByteArray} {d : Nat} {σ u : kS} {B ws nm nm' : List (List Int32)} {ks ks' : List KC}
theorem k_connOf (ty : kTY σ) (x : Int32) : kjY kPP (kQQ Y) d 20 0 (mjL0 2 [.ref 0, .int x]) [] σ (fun r u => u = σ ∧ (r = some .null ∨ ∃ c ∈ CNs, r = some (.ref c))) := by
  have k11' : σ.2.2.2.1 11 = (24, 4) := ty.kl (h := 11) (by decide) rfl
  have nul : kjY kPP (kQQ Y) d 20 7 [some (.ref 0), some (.int x)] [] σ (fun r u => u = σ ∧ (r = some .null ∨ ∃ c ∈ CNs, r = some (.ref c))) := by
    refine kjZ_y rfl rfl 3 _ _ _ _ ty ?_
    refine And.intro rfl (And.intro (Nat.le_of_ble_eq_true rfl) ?_)
    exact ⟨rfl, Or.inl rfl⟩
  refine kjZ_y rfl rfl 2 _ _ _ _ ty ?_
  refine And.intro (fun c => ?_) (fun c => ?_)
  · exact nul
  refine kjZ_y rfl rfl 5 _ _ _ _ ty ?_
  refine (And.intro (ty.k (by decide) rfl) (Or.inl (And.intro (kdr ty (by decide) rfl) (And.intro (fun c2 => ?_) (fun c2 => ?_)))))
  rotate_left
  · exact nul
  have c : 0 ≤ x := Int32.not_lt.mp c
  obtain ⟨i, hi31, ei⟩ := nI_ofp c
  have c2 : x < nI (σ.2.2.2.1 11).2 := c2
  rw [k11', ei, nlt hi31 (by decide)] at c2
  have v5 : vp_in x 4 := by rw [ei]; exact vp_in_nI c2 (by decide)
  have c5 : x.toNatClampNeg = i := by rw [ei]; exact nI_clamp (by omega)
  have ef : σ.2.2.1 11 x.toNatClampNeg = some (12 + 9 * i) := by rw [c5]; exact ty.2.2.2.2.2.2.2.2.2 i c2
  have hc : 12 + 9 * i ∈ CNs := by
    have : ∀ i, i < 4 → 12 + 9 * i ∈ CNs := by decide
    exact this i c2
  have kc : (σ.2.2.2.1 (12 + 9 * i)).1 = 1 := ty.k (CN_ok _ hc).1 (CN_ok _ hc).2.1
  refine kjZ_y rfl rfl 5 _ _ _ _ ty ?_
  refine (And.intro (ty.k (by decide) rfl) (Or.inl (And.intro (Or.inl (ty.k (by decide) rfl)) (And.intro (kdw ty (by decide) rfl v5) (Exists.intro _ (And.intro ef (And.intro rfl (And.intro (Nat.le_of_ble_eq_true rfl) ?_))))))))
  exact ⟨rfl, Or.inr ⟨12 + 9 * i, hc, rfl⟩⟩
theorem kx_isOpen (ty : kTY σ) (x : Int32) : kjY kPP (kQQ Y) (d + 1) 5 0 (mjL0 3 [.ref 0, .int x]) [] σ (fun r u => u = σ ∧ ∃ y, r = some (.int y)) := by
  refine kjZ_y rfl rfl 3 _ _ _ _ ty ?_
  refine (And.intro (Nat.le_of_ble_eq_true rfl) (And.intro (Or.inl ⟨(Nat.le_of_ble_eq_true rfl), (ty.k (by decide) rfl)⟩) (And.intro (Nat.le_of_ble_eq_true rfl) (And.intro (Nat.le_of_ble_eq_true rfl) (kjY_mono ty (fun q_ u1 ty1 xu1 h_ => ?_) (k_connOf ty x))))))
  obtain ⟨rfl, q⟩ := h_
  intro _ _
  rcases q with rfl | ⟨c, hc, rfl⟩
  · refine kjZ_y rfl rfl 5 _ _ _ _ ty1 ?_
    refine (And.intro (Nat.le_of_ble_eq_true rfl) (And.intro rfl (And.intro (Or.inr (Or.inl ⟨rfl, Or.inl rfl⟩)) ?_)))
    exact ⟨rfl, _, rfl⟩
  · have kc : (u1.2.2.2.1 c).1 = 1 := ty1.k (CN_ok c hc).1 (CN_ok c hc).2.1
    refine kjZ_y rfl rfl 6 _ _ _ _ ty1 ?_
    refine (And.intro (Nat.le_of_ble_eq_true rfl) (And.intro (by assumption) (And.intro (fun c1 => ?_) (fun c1 => ?_))))
    · refine kjZ_y rfl rfl 2 _ _ _ _ ty1 ?_
      refine And.intro rfl (And.intro (Or.inr (Or.inl ⟨rfl, Or.inl rfl⟩)) ?_)
      exact ⟨rfl, _, rfl⟩
    · refine kjZ_y rfl rfl 3 _ _ _ _ ty1 ?_
      refine And.intro rfl (And.intro (Or.inr (Or.inl ⟨rfl, Or.inr rfl⟩)) ?_)
      exact ⟨rfl, _, rfl⟩
theorem kx_out (ty : kTY σ) (x : Int32) : kjY kPP (kQQ Y) (d + 1) 6 0 (mjL0 3 [.ref 0, .int x]) [] σ (fun r u => u = σ ∧ ∃ y, r = some (.int y)) := by
  refine kjZ_y rfl rfl 3 _ _ _ _ ty ?_
  refine (And.intro (Nat.le_of_ble_eq_true rfl) (And.intro (Or.inl ⟨(Nat.le_of_ble_eq_true rfl), (ty.k (by decide) rfl)⟩) (And.intro (Nat.le_of_ble_eq_true rfl) (And.intro (Nat.le_of_ble_eq_true rfl) (kjY_mono ty (fun q_ u1 ty1 xu1 h_ => ?_) (k_connOf ty x))))))
  obtain ⟨rfl, q⟩ := h_
  intro _ _
  rcases q with rfl | ⟨c, hc, rfl⟩
  · refine kjZ_y rfl rfl 6 _ _ _ _ ty1 ?_
    refine (And.intro (Nat.le_of_ble_eq_true rfl) (And.intro rfl (And.intro (Or.inl rfl) ?_)))
    exact ⟨rfl, _, rfl⟩
  · obtain ⟨q1, q2, -, q4, -⟩ := CN_ok c hc
    have kc : (u1.2.2.2.1 c).1 = 1 := ty1.k q1 q2
    have ko := ob_k ty1 q4
    refine kjZ_y rfl rfl 7 _ _ _ _ ty1 ?_
    refine (And.intro (Nat.le_of_ble_eq_true rfl) (And.intro (by assumption) (And.intro (by assumption) (And.intro rfl (And.intro (Or.inl rfl) ?_)))))
    exact ⟨rfl, _, rfl⟩
theorem opQ_1 {k : Nat} (po : POT σ) (l : List Int32) (h : l.length + k ≤ 10400) : opQ σ 1 l k := by
  have q : ¬ 1 ∈ payB ∧ kNd 1 = 10400 := by decide +kernel
  exact ⟨PO_of q.1 po, fun _ _ _ => by rw [q.2]; exact h⟩
/-- four bytes for the tape -/
theorem t_four (ty : kTY σ) (g : KG B σ nm ks) {l : List Int32} (h : kBY σ 1 l) (hf : σ.1 1 3 = 0) (hl : l.length + 4 ≤ 10400) (x : Int32) : kjY kPP (kQQ Y) (d + 4) 43 0 (mjL0 3 [.ref 1, .int x]) [] σ (fun r u => r = none ∧ KG B u nm ks ∧ (∃ l', kBY u 1 l' ∧ l'.length = l.length + 4) ∧ u.1 1 3 = 0 ∧ Ch false (jnF 1) [(1, 1)] σ u) := by
  refine kjY_mono ty (fun r u tu _ q => ?_) (k_four ty g.1.1 (b := 1) (by decide) h x (opQ_1 g.1.2 l hl))
  obtain ⟨w, hw, h0, ch, ow, po, l', h1, h2⟩ := q
  obtain ⟨e1, e2⟩ := h2 hf (by have : kMo 1 = 65540 := by decide
                               rw [this]; omega)
  exact ⟨h0, (g.by_ ty (b := 1) (by decide) ch ow po h1).1, ⟨l', h1, by rw [e1, List.length_append, hw]⟩, e2, ch⟩
theorem kx_feed (ty : kTY σ) (g : KG B σ nm ks) {l : List Int32} (h : kBY σ 1 l) (hf : σ.1 1 3 = 0) (hl : l.length + 20 ≤ 10400) (x1 x2 x3 x4 x5 : Int32) : kjY kPP (kQQ Y) (d + 5) 1 0 (mjL0 6 [.ref 0, .int x1, .int x2, .int x3, .int x4, .int x5]) [] σ (fun r u => r = some (.int 1) ∧ KG B u nm ks ∧ (∃ l', kBY u 1 l' ∧ l'.length = l.length + 20) ∧ u.1 1 3 = 0 ∧ Ch false (jnF 1) [(1, 1)] σ u) := by
  have ho : ∀ q ∈ [(1, 1)], q ∈ OWs := fun q hq => by rw [List.mem_singleton.mp hq]; exact ow_b (by decide)
  have h2 : σ.1 1 2 = nI l.length := by obtain ⟨r, N, a⟩ := h; exact a.2.2.2.2.1
  refine kjZ_y rfl rfl 5 _ _ _ _ ty ?_
  refine (And.intro (ty.k (by decide) rfl) (And.intro (ty.k (by decide) rfl) (And.intro (fun c => ?_) (fun c => ?_))))
  rotate_left
  · refine absurd (show σ.1 1 2 ≤ nI 65520 from ?_) c
    rw [h2, nle (by omega) (by decide)]; omega
  refine kjZ_y rfl rfl 4 _ _ _ _ ty ?_
  refine (And.intro (ty.k (by decide) rfl) (And.intro (Nat.le_of_ble_eq_true rfl) (And.intro (Or.inl ⟨(Nat.le_of_ble_eq_true rfl), (ty.k (by decide) rfl)⟩) (And.intro (Nat.le_of_ble_eq_true rfl) (And.intro (Nat.le_of_ble_eq_true rfl) (kjY_mono ty (fun q_ u1 ty1 xu1 h_ => ?_) (t_four (d := d) ty g h hf (by omega) _)))))))
  obtain ⟨rfl, g1, ⟨l1, k1, e1⟩, f1, c1⟩ := h_
  intro _ _
  refine kjZ_y rfl rfl 4 _ _ _ _ ty1 ?_
  refine (And.intro (ty1.k (by decide) rfl) (And.intro (Nat.le_of_ble_eq_true rfl) (And.intro (Or.inl ⟨(Nat.le_of_ble_eq_true rfl), (ty1.k (by decide) rfl)⟩) (And.intro (Nat.le_of_ble_eq_true rfl) (And.intro (Nat.le_of_ble_eq_true rfl) (kjY_mono ty1 (fun q_ u2 ty2 xu2 h_ => ?_) (t_four (d := d) ty1 g1 k1 f1 (by omega) _)))))))
  obtain ⟨rfl, g2, ⟨l2, k2, e2⟩, f2, c2⟩ := h_
  intro _ _
  refine kjZ_y rfl rfl 4 _ _ _ _ ty2 ?_
  refine (And.intro (ty2.k (by decide) rfl) (And.intro (Nat.le_of_ble_eq_true rfl) (And.intro (Or.inl ⟨(Nat.le_of_ble_eq_true rfl), (ty2.k (by decide) rfl)⟩) (And.intro (Nat.le_of_ble_eq_true rfl) (And.intro (Nat.le_of_ble_eq_true rfl) (kjY_mono ty2 (fun q_ u3 ty3 xu3 h_ => ?_) (t_four (d := d) ty2 g2 k2 f2 (by omega) _)))))))
  obtain ⟨rfl, g3, ⟨l3, k3, e3⟩, f3, c3⟩ := h_
  intro _ _
  refine kjZ_y rfl rfl 4 _ _ _ _ ty3 ?_
  refine (And.intro (ty3.k (by decide) rfl) (And.intro (Nat.le_of_ble_eq_true rfl) (And.intro (Or.inl ⟨(Nat.le_of_ble_eq_true rfl), (ty3.k (by decide) rfl)⟩) (And.intro (Nat.le_of_ble_eq_true rfl) (And.intro (Nat.le_of_ble_eq_true rfl) (kjY_mono ty3 (fun q_ u4 ty4 xu4 h_ => ?_) (t_four (d := d) ty3 g3 k3 f3 (by omega) _)))))))
  obtain ⟨rfl, g4, ⟨l4, k4, e4⟩, f4, c4⟩ := h_
  intro _ _
  refine kjZ_y rfl rfl 4 _ _ _ _ ty4 ?_
  refine (And.intro (ty4.k (by decide) rfl) (And.intro (Nat.le_of_ble_eq_true rfl) (And.intro (Or.inl ⟨(Nat.le_of_ble_eq_true rfl), (ty4.k (by decide) rfl)⟩) (And.intro (Nat.le_of_ble_eq_true rfl) (And.intro (Nat.le_of_ble_eq_true rfl) (kjY_mono ty4 (fun q_ u5 ty5 xu5 h_ => ?_) (t_four (d := d) ty4 g4 k4 f4 (by omega) _)))))))
  obtain ⟨rfl, g5, ⟨l5, k5, e5⟩, f5, c5⟩ := h_
  intro _ _
  refine kjZ_y rfl rfl 2 _ _ _ _ ty5 ?_
  refine And.intro rfl (And.intro (Or.inr (Or.inl ⟨rfl, Or.inr rfl⟩)) ?_)
  exact ⟨rfl, g5, ⟨l5, k5, by omega⟩, f5, Ch.tr ty ho (Ch.tr ty ho (Ch.tr ty ho (Ch.tr ty ho c1 c2) c3) c4) c5⟩
theorem Ch.up2 {b : Nat} (ch : Ch false [(b, 2)] [(b, 1)] σ u) : Ch false [(b, 1), (b, 2), (b, 3)] [(b, 1)] σ u := ch.up (fun z => z) (fun p hp => by rw [List.mem_singleton.mp hp]; exact List.mem_cons_of_mem _ List.mem_cons_self) (fun p hp => hp)
theorem kx_end (ty : kTY σ) (g : KG B σ nm ks) {l : List Int32} (h : kBY σ 1 l) (x : Int32) : kjY kPP (kQQ Y) (d + 1) 2 0 (mjL0 2 [.ref 0, .int x]) [] σ (fun r u => (∃ y, r = some (.int y)) ∧ KG B u nm ks ∧ (∃ l', kBY u 1 l' ∧ l'.length ≤ l.length) ∧ u.1 1 3 = σ.1 1 3 ∧ Ch false (jnF 1) [(1, 1)] σ u) := by
  have no : kjY kPP (kQQ Y) (d + 1) 2 7 [some (.ref 0), some (.int x)] [] σ (fun r u => (∃ y, r = some (.int y)) ∧ KG B u nm ks ∧ (∃ l', kBY u 1 l' ∧ l'.length ≤ l.length) ∧ u.1 1 3 = σ.1 1 3 ∧ Ch false (jnF 1) [(1, 1)] σ u) := by
    refine kjZ_y rfl rfl 2 _ _ _ _ ty ?_
    refine And.intro rfl (And.intro (Or.inr (Or.inl ⟨rfl, Or.inl rfl⟩)) ?_)
    exact ⟨⟨_, rfl⟩, g, ⟨l, h, Nat.le_refl _⟩, rfl, Ch.rf⟩
  refine kjZ_y rfl rfl 2 _ _ _ _ ty ?_
  refine And.intro (fun c => ?_) (fun c => ?_)
  · exact no
  refine kjZ_y rfl rfl 5 _ _ _ _ ty ?_
  refine (And.intro (ty.k (by decide) rfl) (And.intro (ty.k (by decide) rfl) (And.intro (fun c2 => ?_) (fun c2 => ?_))))
  rotate_left
  · exact no
  obtain ⟨r, N, hr⟩ := h
  refine kjZ_y rfl rfl 4 _ _ _ _ ty ?_
  refine (And.intro (ty.k (by decide) rfl) (And.intro (Nat.le_of_ble_eq_true rfl) (And.intro (Or.inl ⟨(Nat.le_of_ble_eq_true rfl), (ty.k (by decide) rfl)⟩) (And.intro (Nat.le_of_ble_eq_true rfl) (And.intro (Nat.le_of_ble_eq_true rfl) (kjY_mono ty (fun q_ u1 ty1 xu1 h_ => ?_) (k_cut (d := d) ty g.1.1 g.1.2 (b := 1) (by decide) hr x)))))))
  obtain ⟨rfl, w1, c1, o1, p1, q1⟩ := h_
  intro _ _
  refine kjZ_y rfl rfl 2 _ _ _ _ ty1 ?_
  refine And.intro rfl (And.intro (Or.inr (Or.inl ⟨rfl, Or.inr rfl⟩)) ?_)
  have hbr := br_ne ty (b := 1) (by decide) hr
  refine ⟨⟨_, rfl⟩, (g.by_ ty (b := 1) (by decide) c1.up2 o1 p1 ⟨r, N, q1⟩).1, ⟨_, ⟨r, N, q1⟩, ?_⟩, w1.2 1 3 hbr (fun z => absurd z.2 (by decide)), c1.up2⟩
  split
  · rw [List.length_take]; exact Nat.min_le_right _ _
  · exact Nat.le_refl _
theorem kx_take (ty : kTY σ) (g : KG B σ nm ks) (x1 x2 : Int32) : kjY kPP (kQQ Y) (d + 2) 8 0 (mjL0 4 [.ref 0, .int x1, .int x2]) [] σ (fun r u => (∃ y, r = some (.int y)) ∧ KG B u nm ks ∧ ∃ c ∈ CNs, Ch false (jnF (c + 3)) [(c + 3, 1)] σ u) := by
  refine kjZ_y rfl rfl 3 _ _ _ _ ty ?_
  refine (And.intro (Nat.le_of_ble_eq_true rfl) (And.intro (Or.inl ⟨(Nat.le_of_ble_eq_true rfl), (ty.k (by decide) rfl)⟩) (And.intro (Nat.le_of_ble_eq_true rfl) (And.intro (Nat.le_of_ble_eq_true rfl) (kjY_mono ty (fun q_ u1 ty1 xu1 h_ => ?_) (k_connOf ty x1))))))
  obtain ⟨rfl, q⟩ := h_
  intro _ _
  rcases q with rfl | ⟨c, hc, rfl⟩
  · refine kjZ_y rfl rfl 5 _ _ _ _ ty1 ?_
    refine (And.intro (Nat.le_of_ble_eq_true rfl) (And.intro rfl (And.intro (Or.inr (Or.inl ⟨rfl, Or.inl rfl⟩)) ?_)))
    exact ⟨⟨_, rfl⟩, g, 12, by decide, Ch.rf⟩
  · obtain ⟨q1, q2, -, q4, -⟩ := CN_ok c hc
    have kc : (u1.2.2.2.1 c).1 = 1 := ty1.k q1 q2
    have ko := ob_k ty1 q4
    have no : kjY kPP (kQQ Y) (d + 2) 8 13 [some (.ref 0), some (.int x1), some (.int x2), some (.ref c)] [] u1 (fun r u => (∃ y, r = some (.int y)) ∧ KG B u nm ks ∧ ∃ c ∈ CNs, Ch false (jnF (c + 3)) [(c + 3, 1)] u1 u) := by
      refine kjZ_y rfl rfl 2 _ _ _ _ ty1 ?_
      refine And.intro rfl (And.intro (Or.inr (Or.inl ⟨rfl, Or.inl rfl⟩)) ?_)
      exact ⟨⟨_, rfl⟩, g, 12, by decide, Ch.rf⟩
    obtain ⟨l, r, N, hr⟩ := g.2.2.2.1 (c + 3) q4
    have h2 := hr.2.2.2.2.1
    have hN := hr.2.2.1.2
    have hlN := hr.2.2.2.2.2.1
    refine kjZ_y rfl rfl 5 _ _ _ _ ty1 ?_
    refine (And.intro (Nat.le_of_ble_eq_true rfl) (And.intro (fun c1 => ?_) (fun c1 => ?_)))
    · exact no
    refine kjZ_y rfl rfl 5 _ _ _ _ ty1 ?_
    refine (And.intro (by assumption) (And.intro (by assumption) (And.intro (fun c2 => ?_) (fun c2 => ?_))))
    rotate_left
    · exact no
    have c1 : 0 ≤ x2 := Int32.not_lt.mp c1
    obtain ⟨i, hi31, ei⟩ := nI_ofp c1
    have c2 : x2 ≤ u1.1 (c + 3) 2 := c2
    rw [h2, ei, nle hi31 (by omega)] at c2
    refine kjZ_y rfl rfl 4 _ _ _ _ ty1 ?_
    refine (And.intro (by assumption) (And.intro (Nat.le_of_ble_eq_true rfl) (And.intro (Or.inl ⟨(Nat.le_of_ble_eq_true rfl), (by assumption)⟩) (And.intro (Nat.le_of_ble_eq_true rfl) (And.intro (Nat.le_of_ble_eq_true rfl) (kjY_mono ty1 (fun q_ u2 ty2 xu2 h_ => ?_) (k_drop (d := d) ty1 g.1.1 g.1.2 q4 hr (k := i) (by omega) x2 ei)))))))
    obtain ⟨rfl, w1, c3, o1, p1, q5⟩ := h_
    intro _ _
    refine kjZ_y rfl rfl 2 _ _ _ _ ty2 ?_
    refine And.intro rfl (And.intro (Or.inr (Or.inl ⟨rfl, Or.inr rfl⟩)) ?_)
    exact ⟨⟨_, rfl⟩, (g.by_ ty1 q4 c3.up2 o1 p1 ⟨r, N, q5⟩).1, c, hc, c3.up2⟩
end KFACE
