/-! define, names1. -/
section NAMES1
variable {Y : Nat → MethodName × ByteArray} {d : Nat}
theorem mjLu_o {a : Nat → Nat → Int64} {h i g j : Nat} {v : Int64} (c : g ≠ h) : mjLu a h i v g j = a g j := by rw [mjLu_at, if_neg (fun z => c z.1)]
theorem mjLu_p {a : Nat → Nat → Int64} {h i : Nat} {v : Int64} : mjLu a h i v h i = v := by rw [mjLu_at, if_pos ⟨rfl, rfl⟩]
theorem mjLu_q {a : Nat → Nat → Int64} {h i g j : Nat} {v : Int64} (c : j ≠ i) : mjLu a h i v g j = a g j := by rw [mjLu_at, if_neg (fun z => c z.2)]
theorem mjIu_o {a : Nat → Nat → Int32} {h i g j : Nat} {v : Int32} (c : g ≠ h) : mjIu a h i v g j = a g j := by rw [mjIu_at, if_neg (fun z => c z.1)]
theorem mjIu_p {a : Nat → Nat → Int32} {h i : Nat} {v : Int32} : mjIu a h i v h i = v := by rw [mjIu_at, if_pos ⟨rfl, rfl⟩]
theorem mjIu_q {a : Nat → Nat → Int32} {h i g j : Nat} {v : Int32} (c : j ≠ i) : mjIu a h i v g j = a g j := by rw [mjIu_at, if_neg (fun z => c z.2)]
/-- so many commands are defined -/
def TBk (σ : mjS) (k : Nat) : Prop := σ.1 f_defined = nI k ∧ ∀ i, 1 ≤ i → i ≤ k → σ.2.2.2 r_nameA i = cA.getD i 0 ∧ σ.2.2.2 r_nameB i = cB.getD i 0 ∧ σ.2.2.1 r_least i = nI (cLo.getD i 0) ∧ σ.2.2.1 r_most i = hiI (cHi.getD i 0) ∧ ((¬ σ.2.2.1 r_heavy i = 0) ↔ cHv.getD i false = true)
def dfK (σ : mjS) (k : Nat) (a b : Int64) (lo hi hv : Int32) : mjK := fun r u => r = none ∧ Fr [f_defined] tbH σ u ∧ u.1 f_defined = nI (k + 1) ∧ (u.2.2.2 r_nameA (k + 1) = a ∧ u.2.2.2 r_nameB (k + 1) = b ∧ u.2.2.1 r_least (k + 1) = lo ∧ u.2.2.1 r_most (k + 1) = hi ∧ u.2.2.1 r_heavy (k + 1) = hv) ∧ ∀ i, i ≠ k + 1 → u.2.2.2 r_nameA i = σ.2.2.2 r_nameA i ∧ u.2.2.2 r_nameB i = σ.2.2.2 r_nameB i ∧ u.2.2.1 r_least i = σ.2.2.1 r_least i ∧ u.2.2.1 r_most i = σ.2.2.1 r_most i ∧ u.2.2.1 r_heavy i = σ.2.2.1 r_heavy i
set_option maxRecDepth 100000 in
theorem c_define {σ : mjS} (ty : mjTY σ) {k : Nat} (hk : k < 127) (e : σ.1 f_defined = nI k) (a b : Int64) (lo hi hv : Int32) (hh : hv = 0 ∨ hv = 1) : mjY mjPP (mjQQ Y) d 0 0 (mjL0 8 [.ref 0, .long a, .long b, .int lo, .int hi, .int hv]) [] σ (dfK σ k a b lo hi hv) := by
  refine mjZ_y rfl rfl 6 _ _ _ _ ty ?_
  refine (And.intro rfl (And.intro rfl (And.intro (Or.inl rfl) (fun ty' => ?_))))
  have go : ∀ u : mjS, mjTY u → Fr [f_defined] [] σ u → u.1 f_defined = nI (k + 1) → mjY mjPP (mjQQ Y) d 0 6 [some (.ref 0), some (.long a), none, some (.long b), none, some (.int lo), some (.int hi), some (.int hv)] [] u (dfK σ k a b lo hi hv) := by
    intro u tu fu eu
    have v : vp_in (u.1 f_defined) 128 := by rw [eu]; exact vp_in_nI (by omega) (by decide)
    have c : (u.1 f_defined).toNatClampNeg = k + 1 := by rw [eu]; exact nI_clamp (by omega)
    refine mjZ_y rfl rfl 31 _ _ _ _ tu ?_
    refine (And.intro rfl (And.intro rfl (And.intro rfl (And.intro v (fun tu' => (And.intro rfl (And.intro rfl (And.intro rfl (And.intro v (fun tu'' => (And.intro rfl (And.intro rfl (And.intro rfl (And.intro v (fun tu''' => (And.intro rfl (And.intro rfl (And.intro rfl (And.intro v (fun tu'''' => (And.intro rfl (And.intro rfl (And.intro (Or.inr ⟨rfl, hh⟩) (And.intro v (fun tu''''' => And.intro rfl (And.intro rfl ?_))))))))))))))))))))))))))
    have fin : ∀ z : mjS, z = (u.1, u.2.1, mjIu (mjIu (mjIu u.2.2.1 r_least (k + 1) lo) r_most (k + 1) hi) r_heavy (k + 1) hv, mjLu (mjLu u.2.2.2 r_nameA (k + 1) a) r_nameB (k + 1) b) → dfK σ k a b lo hi hv none z := by
      intro z ez
      subst ez
      have er : ∀ g, u.2.2.1 g = σ.2.2.1 g ∧ u.2.2.2 g = σ.2.2.2 g := fun g => fu.2.2 g (by simp)
      refine ⟨rfl, ⟨fun j hj => fu.1 j hj, fun j hj => fu.2.1 j hj, fun g hg => ⟨?_, ?_⟩⟩, eu, ⟨?_, ?_, ?_, ?_, ?_⟩, fun i hne => ⟨?_, ?_, ?_, ?_, ?_⟩⟩
      · show mjIu (mjIu (mjIu u.2.2.1 r_least (k + 1) lo) r_most (k + 1) hi) r_heavy (k + 1) hv g = _
        rw [mjIu_ne (fun z => hg (by rw [z]; decide)), mjIu_ne (fun z => hg (by rw [z]; decide)), mjIu_ne (fun z => hg (by rw [z]; decide))]; exact (er g).1
      · show mjLu (mjLu u.2.2.2 r_nameA (k + 1) a) r_nameB (k + 1) b g = _
        unfold mjLu
        rw [if_neg (fun z => hg (by rw [z]; decide)), if_neg (fun z => hg (by rw [z]; decide))]; exact (er g).2
      · show mjLu (mjLu u.2.2.2 r_nameA (k + 1) a) r_nameB (k + 1) b r_nameA (k + 1) = _
        rw [mjLu_o (show r_nameA ≠ r_nameB by decide)]; exact mjLu_p
      · show mjLu (mjLu u.2.2.2 r_nameA (k + 1) a) r_nameB (k + 1) b r_nameB (k + 1) = _
        exact mjLu_p
      · show mjIu (mjIu (mjIu u.2.2.1 r_least (k + 1) lo) r_most (k + 1) hi) r_heavy (k + 1) hv r_least (k + 1) = _
        rw [mjIu_o (show r_least ≠ r_heavy by decide), mjIu_o (show r_least ≠ r_most by decide)]; exact mjIu_p
      · show mjIu (mjIu (mjIu u.2.2.1 r_least (k + 1) lo) r_most (k + 1) hi) r_heavy (k + 1) hv r_most (k + 1) = _
        rw [mjIu_o (show r_most ≠ r_heavy by decide)]; exact mjIu_p
      · show mjIu (mjIu (mjIu u.2.2.1 r_least (k + 1) lo) r_most (k + 1) hi) r_heavy (k + 1) hv r_heavy (k + 1) = _
        exact mjIu_p
      · show mjLu (mjLu u.2.2.2 r_nameA (k + 1) a) r_nameB (k + 1) b r_nameA i = _
        rw [mjLu_q hne, mjLu_q hne, (er _).2]
      · show mjLu (mjLu u.2.2.2 r_nameA (k + 1) a) r_nameB (k + 1) b r_nameB i = _
        rw [mjLu_q hne, mjLu_q hne, (er _).2]
      · show mjIu (mjIu (mjIu u.2.2.1 r_least (k + 1) lo) r_most (k + 1) hi) r_heavy (k + 1) hv r_least i = _
        rw [mjIu_q hne, mjIu_q hne, mjIu_q hne, (er _).1]
      · show mjIu (mjIu (mjIu u.2.2.1 r_least (k + 1) lo) r_most (k + 1) hi) r_heavy (k + 1) hv r_most i = _
        rw [mjIu_q hne, mjIu_q hne, mjIu_q hne, (er _).1]
      · show mjIu (mjIu (mjIu u.2.2.1 r_least (k + 1) lo) r_most (k + 1) hi) r_heavy (k + 1) hv r_heavy i = _
        rw [mjIu_q hne, mjIu_q hne, mjIu_q hne, (er _).1]
    exact fin _ (by rw [c]; rfl)
  refine go _ ty' (Fr.i (by decide)) ?_
  show upd σ.1 f_defined (σ.1 f_defined + Int32.ofInt 1) f_defined = _
  rw [pk_us (f := σ.1) (k := f_defined) (x := σ.1 f_defined + Int32.ofInt 1), e]; exact nI_1 k
theorem d_step {σ u : mjS} {k : Nat} {a b : Int64} {lo hi hv : Int32} (h : TBk σ k) (g : dfK σ k a b lo hi hv none u) (ea : a = cA.getD (k + 1) 0) (eb : b = cB.getD (k + 1) 0) (el : lo = nI (cLo.getD (k + 1) 0)) (eh : hi = hiI (cHi.getD (k + 1) 0)) (ev : (¬ hv = 0) ↔ cHv.getD (k + 1) false = true) : TBk u (k + 1) := by
  obtain ⟨-, -, g1, ⟨g2, g3, g4, g5, g6⟩, g7⟩ := g
  refine ⟨g1, fun i h1 h2 => ?_⟩
  by_cases c : i = k + 1
  · subst c
    rw [g2, g3, g4, g5, g6]; exact ⟨ea, eb, el, eh, ev⟩
  · obtain ⟨q1, q2, q3, q4, q5⟩ := g7 i c
    rw [q1, q2, q3, q4, q5]; exact h.2 i h1 (by omega)

set_option maxRecDepth 100000 in
theorem c_names_0 (K : mjK) {σ : mjS} (ty : mjTY σ) (h0 : TBk σ 0) (hK : ∀ u, mjTY u → Fr [f_defined] tbH σ u → TBk u 15 → mjY mjPP (mjQQ Y) (d + 1) 2 105 [some (.ref 0)] [] u K) : mjY mjPP (mjQQ Y) (d + 1) 2 0 [some (.ref 0)] [] σ K := by
  refine mjZ_y rfl rfl 7 _ _ _ _ ty ?_
  refine (And.intro (Nat.le_of_ble_eq_true rfl) (And.intro rfl (And.intro (Nat.le_of_ble_eq_true rfl) (And.intro (Nat.le_of_ble_eq_true rfl) (mjY_mono ty (fun q_ u1 ty1 h_ => ?_) (c_define (d := d) ty (k := 0) (by decide) h0.1 _ _ _ _ _ (by decide)))))))
  have g1 := h_
  intro _
  obtain ⟨rfl, -⟩ := id g1
  have h1 : TBk u1 1 := d_step h0 g1 (by decide +kernel) (by decide +kernel) (by decide +kernel) (by decide +kernel) (by decide +kernel)
  refine mjZ_y rfl rfl 7 _ _ _ _ ty1 ?_
  refine (And.intro (Nat.le_of_ble_eq_true rfl) (And.intro rfl (And.intro (Nat.le_of_ble_eq_true rfl) (And.intro (Nat.le_of_ble_eq_true rfl) (mjY_mono ty1 (fun q_ u2 ty2 h_ => ?_) (c_define (d := d) ty1 (k := 1) (by decide) h1.1 _ _ _ _ _ (by decide)))))))
  have g2 := h_
  intro _
  obtain ⟨rfl, -⟩ := id g2
  have h2 : TBk u2 2 := d_step h1 g2 (by decide +kernel) (by decide +kernel) (by decide +kernel) (by decide +kernel) (by decide +kernel)
  refine mjZ_y rfl rfl 7 _ _ _ _ ty2 ?_
  refine (And.intro (Nat.le_of_ble_eq_true rfl) (And.intro rfl (And.intro (Nat.le_of_ble_eq_true rfl) (And.intro (Nat.le_of_ble_eq_true rfl) (mjY_mono ty2 (fun q_ u3 ty3 h_ => ?_) (c_define (d := d) ty2 (k := 2) (by decide) h2.1 _ _ _ _ _ (by decide)))))))
  have g3 := h_
  intro _
  obtain ⟨rfl, -⟩ := id g3
  have h3 : TBk u3 3 := d_step h2 g3 (by decide +kernel) (by decide +kernel) (by decide +kernel) (by decide +kernel) (by decide +kernel)
  refine mjZ_y rfl rfl 7 _ _ _ _ ty3 ?_
  refine (And.intro (Nat.le_of_ble_eq_true rfl) (And.intro rfl (And.intro (Nat.le_of_ble_eq_true rfl) (And.intro (Nat.le_of_ble_eq_true rfl) (mjY_mono ty3 (fun q_ u4 ty4 h_ => ?_) (c_define (d := d) ty3 (k := 3) (by decide) h3.1 _ _ _ _ _ (by decide)))))))
  have g4 := h_
  intro _
  obtain ⟨rfl, -⟩ := id g4
  have h4 : TBk u4 4 := d_step h3 g4 (by decide +kernel) (by decide +kernel) (by decide +kernel) (by decide +kernel) (by decide +kernel)
  refine mjZ_y rfl rfl 7 _ _ _ _ ty4 ?_
  refine (And.intro (Nat.le_of_ble_eq_true rfl) (And.intro rfl (And.intro (Nat.le_of_ble_eq_true rfl) (And.intro (Nat.le_of_ble_eq_true rfl) (mjY_mono ty4 (fun q_ u5 ty5 h_ => ?_) (c_define (d := d) ty4 (k := 4) (by decide) h4.1 _ _ _ _ _ (by decide)))))))
  have g5 := h_
  intro _
  obtain ⟨rfl, -⟩ := id g5
  have h5 : TBk u5 5 := d_step h4 g5 (by decide +kernel) (by decide +kernel) (by decide +kernel) (by decide +kernel) (by decide +kernel)
  refine mjZ_y rfl rfl 7 _ _ _ _ ty5 ?_
  refine (And.intro (Nat.le_of_ble_eq_true rfl) (And.intro rfl (And.intro (Nat.le_of_ble_eq_true rfl) (And.intro (Nat.le_of_ble_eq_true rfl) (mjY_mono ty5 (fun q_ u6 ty6 h_ => ?_) (c_define (d := d) ty5 (k := 5) (by decide) h5.1 _ _ _ _ _ (by decide)))))))
  have g6 := h_
  intro _
  obtain ⟨rfl, -⟩ := id g6
  have h6 : TBk u6 6 := d_step h5 g6 (by decide +kernel) (by decide +kernel) (by decide +kernel) (by decide +kernel) (by decide +kernel)
  refine mjZ_y rfl rfl 7 _ _ _ _ ty6 ?_
  refine (And.intro (Nat.le_of_ble_eq_true rfl) (And.intro rfl (And.intro (Nat.le_of_ble_eq_true rfl) (And.intro (Nat.le_of_ble_eq_true rfl) (mjY_mono ty6 (fun q_ u7 ty7 h_ => ?_) (c_define (d := d) ty6 (k := 6) (by decide) h6.1 _ _ _ _ _ (by decide)))))))
  have g7 := h_
  intro _
  obtain ⟨rfl, -⟩ := id g7
  have h7 : TBk u7 7 := d_step h6 g7 (by decide +kernel) (by decide +kernel) (by decide +kernel) (by decide +kernel) (by decide +kernel)
  refine mjZ_y rfl rfl 7 _ _ _ _ ty7 ?_
  refine (And.intro (Nat.le_of_ble_eq_true rfl) (And.intro rfl (And.intro (Nat.le_of_ble_eq_true rfl) (And.intro (Nat.le_of_ble_eq_true rfl) (mjY_mono ty7 (fun q_ u8 ty8 h_ => ?_) (c_define (d := d) ty7 (k := 7) (by decide) h7.1 _ _ _ _ _ (by decide)))))))
  have g8 := h_
  intro _
  obtain ⟨rfl, -⟩ := id g8
  have h8 : TBk u8 8 := d_step h7 g8 (by decide +kernel) (by decide +kernel) (by decide +kernel) (by decide +kernel) (by decide +kernel)
  refine mjZ_y rfl rfl 7 _ _ _ _ ty8 ?_
  refine (And.intro (Nat.le_of_ble_eq_true rfl) (And.intro rfl (And.intro (Nat.le_of_ble_eq_true rfl) (And.intro (Nat.le_of_ble_eq_true rfl) (mjY_mono ty8 (fun q_ u9 ty9 h_ => ?_) (c_define (d := d) ty8 (k := 8) (by decide) h8.1 _ _ _ _ _ (by decide)))))))
  have g9 := h_
  intro _
  obtain ⟨rfl, -⟩ := id g9
  have h9 : TBk u9 9 := d_step h8 g9 (by decide +kernel) (by decide +kernel) (by decide +kernel) (by decide +kernel) (by decide +kernel)
  refine mjZ_y rfl rfl 7 _ _ _ _ ty9 ?_
  refine (And.intro (Nat.le_of_ble_eq_true rfl) (And.intro rfl (And.intro (Nat.le_of_ble_eq_true rfl) (And.intro (Nat.le_of_ble_eq_true rfl) (mjY_mono ty9 (fun q_ u10 ty10 h_ => ?_) (c_define (d := d) ty9 (k := 9) (by decide) h9.1 _ _ _ _ _ (by decide)))))))
  have g10 := h_
  intro _
  obtain ⟨rfl, -⟩ := id g10
  have h10 : TBk u10 10 := d_step h9 g10 (by decide +kernel) (by decide +kernel) (by decide +kernel) (by decide +kernel) (by decide +kernel)
  refine mjZ_y rfl rfl 7 _ _ _ _ ty10 ?_
  refine (And.intro (Nat.le_of_ble_eq_true rfl) (And.intro rfl (And.intro (Nat.le_of_ble_eq_true rfl) (And.intro (Nat.le_of_ble_eq_true rfl) (mjY_mono ty10 (fun q_ u11 ty11 h_ => ?_) (c_define (d := d) ty10 (k := 10) (by decide) h10.1 _ _ _ _ _ (by decide)))))))
  have g11 := h_
  intro _
  obtain ⟨rfl, -⟩ := id g11
  have h11 : TBk u11 11 := d_step h10 g11 (by decide +kernel) (by decide +kernel) (by decide +kernel) (by decide +kernel) (by decide +kernel)
  refine mjZ_y rfl rfl 7 _ _ _ _ ty11 ?_
  refine (And.intro (Nat.le_of_ble_eq_true rfl) (And.intro rfl (And.intro (Nat.le_of_ble_eq_true rfl) (And.intro (Nat.le_of_ble_eq_true rfl) (mjY_mono ty11 (fun q_ u12 ty12 h_ => ?_) (c_define (d := d) ty11 (k := 11) (by decide) h11.1 _ _ _ _ _ (by decide)))))))
  have g12 := h_
  intro _
  obtain ⟨rfl, -⟩ := id g12
  have h12 : TBk u12 12 := d_step h11 g12 (by decide +kernel) (by decide +kernel) (by decide +kernel) (by decide +kernel) (by decide +kernel)
  refine mjZ_y rfl rfl 7 _ _ _ _ ty12 ?_
  refine (And.intro (Nat.le_of_ble_eq_true rfl) (And.intro rfl (And.intro (Nat.le_of_ble_eq_true rfl) (And.intro (Nat.le_of_ble_eq_true rfl) (mjY_mono ty12 (fun q_ u13 ty13 h_ => ?_) (c_define (d := d) ty12 (k := 12) (by decide) h12.1 _ _ _ _ _ (by decide)))))))
  have g13 := h_
  intro _
  obtain ⟨rfl, -⟩ := id g13
  have h13 : TBk u13 13 := d_step h12 g13 (by decide +kernel) (by decide +kernel) (by decide +kernel) (by decide +kernel) (by decide +kernel)
  refine mjZ_y rfl rfl 7 _ _ _ _ ty13 ?_
  refine (And.intro (Nat.le_of_ble_eq_true rfl) (And.intro rfl (And.intro (Nat.le_of_ble_eq_true rfl) (And.intro (Nat.le_of_ble_eq_true rfl) (mjY_mono ty13 (fun q_ u14 ty14 h_ => ?_) (c_define (d := d) ty13 (k := 13) (by decide) h13.1 _ _ _ _ _ (by decide)))))))
  have g14 := h_
  intro _
  obtain ⟨rfl, -⟩ := id g14
  have h14 : TBk u14 14 := d_step h13 g14 (by decide +kernel) (by decide +kernel) (by decide +kernel) (by decide +kernel) (by decide +kernel)
  refine mjZ_y rfl rfl 7 _ _ _ _ ty14 ?_
  refine (And.intro (Nat.le_of_ble_eq_true rfl) (And.intro rfl (And.intro (Nat.le_of_ble_eq_true rfl) (And.intro (Nat.le_of_ble_eq_true rfl) (mjY_mono ty14 (fun q_ u15 ty15 h_ => ?_) (c_define (d := d) ty14 (k := 14) (by decide) h14.1 _ _ _ _ _ (by decide)))))))
  have g15 := h_
  intro _
  obtain ⟨rfl, -⟩ := id g15
  have h15 : TBk u15 15 := d_step h14 g15 (by decide +kernel) (by decide +kernel) (by decide +kernel) (by decide +kernel) (by decide +kernel)
  exact hK u15 ty15 (((((((((((((((g1.2.1).tr g2.2.1).tr g3.2.1).tr g4.2.1).tr g5.2.1).tr g6.2.1).tr g7.2.1).tr g8.2.1).tr g9.2.1).tr g10.2.1).tr g11.2.1).tr g12.2.1).tr g13.2.1).tr g14.2.1).tr g15.2.1) h15
set_option maxRecDepth 100000 in
theorem c_names_15 (K : mjK) {σ : mjS} (ty : mjTY σ) (h0 : TBk σ 15) (hK : ∀ u, mjTY u → Fr [f_defined] tbH σ u → TBk u 30 → mjY mjPP (mjQQ Y) (d + 1) 2 210 [some (.ref 0)] [] u K) : mjY mjPP (mjQQ Y) (d + 1) 2 105 [some (.ref 0)] [] σ K := by
  refine mjZ_y rfl rfl 7 _ _ _ _ ty ?_
  refine (And.intro (Nat.le_of_ble_eq_true rfl) (And.intro rfl (And.intro (Nat.le_of_ble_eq_true rfl) (And.intro (Nat.le_of_ble_eq_true rfl) (mjY_mono ty (fun q_ u1 ty1 h_ => ?_) (c_define (d := d) ty (k := 15) (by decide) h0.1 _ _ _ _ _ (by decide)))))))
  have g1 := h_
  intro _
  obtain ⟨rfl, -⟩ := id g1
  have h1 : TBk u1 16 := d_step h0 g1 (by decide +kernel) (by decide +kernel) (by decide +kernel) (by decide +kernel) (by decide +kernel)
  refine mjZ_y rfl rfl 7 _ _ _ _ ty1 ?_
  refine (And.intro (Nat.le_of_ble_eq_true rfl) (And.intro rfl (And.intro (Nat.le_of_ble_eq_true rfl) (And.intro (Nat.le_of_ble_eq_true rfl) (mjY_mono ty1 (fun q_ u2 ty2 h_ => ?_) (c_define (d := d) ty1 (k := 16) (by decide) h1.1 _ _ _ _ _ (by decide)))))))
  have g2 := h_
  intro _
  obtain ⟨rfl, -⟩ := id g2
  have h2 : TBk u2 17 := d_step h1 g2 (by decide +kernel) (by decide +kernel) (by decide +kernel) (by decide +kernel) (by decide +kernel)
  refine mjZ_y rfl rfl 7 _ _ _ _ ty2 ?_
  refine (And.intro (Nat.le_of_ble_eq_true rfl) (And.intro rfl (And.intro (Nat.le_of_ble_eq_true rfl) (And.intro (Nat.le_of_ble_eq_true rfl) (mjY_mono ty2 (fun q_ u3 ty3 h_ => ?_) (c_define (d := d) ty2 (k := 17) (by decide) h2.1 _ _ _ _ _ (by decide)))))))
  have g3 := h_
  intro _
  obtain ⟨rfl, -⟩ := id g3
  have h3 : TBk u3 18 := d_step h2 g3 (by decide +kernel) (by decide +kernel) (by decide +kernel) (by decide +kernel) (by decide +kernel)
  refine mjZ_y rfl rfl 7 _ _ _ _ ty3 ?_
  refine (And.intro (Nat.le_of_ble_eq_true rfl) (And.intro rfl (And.intro (Nat.le_of_ble_eq_true rfl) (And.intro (Nat.le_of_ble_eq_true rfl) (mjY_mono ty3 (fun q_ u4 ty4 h_ => ?_) (c_define (d := d) ty3 (k := 18) (by decide) h3.1 _ _ _ _ _ (by decide)))))))
  have g4 := h_
  intro _
  obtain ⟨rfl, -⟩ := id g4
  have h4 : TBk u4 19 := d_step h3 g4 (by decide +kernel) (by decide +kernel) (by decide +kernel) (by decide +kernel) (by decide +kernel)
  refine mjZ_y rfl rfl 7 _ _ _ _ ty4 ?_
  refine (And.intro (Nat.le_of_ble_eq_true rfl) (And.intro rfl (And.intro (Nat.le_of_ble_eq_true rfl) (And.intro (Nat.le_of_ble_eq_true rfl) (mjY_mono ty4 (fun q_ u5 ty5 h_ => ?_) (c_define (d := d) ty4 (k := 19) (by decide) h4.1 _ _ _ _ _ (by decide)))))))
  have g5 := h_
  intro _
  obtain ⟨rfl, -⟩ := id g5
  have h5 : TBk u5 20 := d_step h4 g5 (by decide +kernel) (by decide +kernel) (by decide +kernel) (by decide +kernel) (by decide +kernel)
  refine mjZ_y rfl rfl 7 _ _ _ _ ty5 ?_
  refine (And.intro (Nat.le_of_ble_eq_true rfl) (And.intro rfl (And.intro (Nat.le_of_ble_eq_true rfl) (And.intro (Nat.le_of_ble_eq_true rfl) (mjY_mono ty5 (fun q_ u6 ty6 h_ => ?_) (c_define (d := d) ty5 (k := 20) (by decide) h5.1 _ _ _ _ _ (by decide)))))))
  have g6 := h_
  intro _
  obtain ⟨rfl, -⟩ := id g6
  have h6 : TBk u6 21 := d_step h5 g6 (by decide +kernel) (by decide +kernel) (by decide +kernel) (by decide +kernel) (by decide +kernel)
  refine mjZ_y rfl rfl 7 _ _ _ _ ty6 ?_
  refine (And.intro (Nat.le_of_ble_eq_true rfl) (And.intro rfl (And.intro (Nat.le_of_ble_eq_true rfl) (And.intro (Nat.le_of_ble_eq_true rfl) (mjY_mono ty6 (fun q_ u7 ty7 h_ => ?_) (c_define (d := d) ty6 (k := 21) (by decide) h6.1 _ _ _ _ _ (by decide)))))))
  have g7 := h_
  intro _
  obtain ⟨rfl, -⟩ := id g7
  have h7 : TBk u7 22 := d_step h6 g7 (by decide +kernel) (by decide +kernel) (by decide +kernel) (by decide +kernel) (by decide +kernel)
  refine mjZ_y rfl rfl 7 _ _ _ _ ty7 ?_
  refine (And.intro (Nat.le_of_ble_eq_true rfl) (And.intro rfl (And.intro (Nat.le_of_ble_eq_true rfl) (And.intro (Nat.le_of_ble_eq_true rfl) (mjY_mono ty7 (fun q_ u8 ty8 h_ => ?_) (c_define (d := d) ty7 (k := 22) (by decide) h7.1 _ _ _ _ _ (by decide)))))))
  have g8 := h_
  intro _
  obtain ⟨rfl, -⟩ := id g8
  have h8 : TBk u8 23 := d_step h7 g8 (by decide +kernel) (by decide +kernel) (by decide +kernel) (by decide +kernel) (by decide +kernel)
  refine mjZ_y rfl rfl 7 _ _ _ _ ty8 ?_
  refine (And.intro (Nat.le_of_ble_eq_true rfl) (And.intro rfl (And.intro (Nat.le_of_ble_eq_true rfl) (And.intro (Nat.le_of_ble_eq_true rfl) (mjY_mono ty8 (fun q_ u9 ty9 h_ => ?_) (c_define (d := d) ty8 (k := 23) (by decide) h8.1 _ _ _ _ _ (by decide)))))))
  have g9 := h_
  intro _
  obtain ⟨rfl, -⟩ := id g9
  have h9 : TBk u9 24 := d_step h8 g9 (by decide +kernel) (by decide +kernel) (by decide +kernel) (by decide +kernel) (by decide +kernel)
  refine mjZ_y rfl rfl 7 _ _ _ _ ty9 ?_
  refine (And.intro (Nat.le_of_ble_eq_true rfl) (And.intro rfl (And.intro (Nat.le_of_ble_eq_true rfl) (And.intro (Nat.le_of_ble_eq_true rfl) (mjY_mono ty9 (fun q_ u10 ty10 h_ => ?_) (c_define (d := d) ty9 (k := 24) (by decide) h9.1 _ _ _ _ _ (by decide)))))))
  have g10 := h_
  intro _
  obtain ⟨rfl, -⟩ := id g10
  have h10 : TBk u10 25 := d_step h9 g10 (by decide +kernel) (by decide +kernel) (by decide +kernel) (by decide +kernel) (by decide +kernel)
  refine mjZ_y rfl rfl 7 _ _ _ _ ty10 ?_
  refine (And.intro (Nat.le_of_ble_eq_true rfl) (And.intro rfl (And.intro (Nat.le_of_ble_eq_true rfl) (And.intro (Nat.le_of_ble_eq_true rfl) (mjY_mono ty10 (fun q_ u11 ty11 h_ => ?_) (c_define (d := d) ty10 (k := 25) (by decide) h10.1 _ _ _ _ _ (by decide)))))))
  have g11 := h_
  intro _
  obtain ⟨rfl, -⟩ := id g11
  have h11 : TBk u11 26 := d_step h10 g11 (by decide +kernel) (by decide +kernel) (by decide +kernel) (by decide +kernel) (by decide +kernel)
  refine mjZ_y rfl rfl 7 _ _ _ _ ty11 ?_
  refine (And.intro (Nat.le_of_ble_eq_true rfl) (And.intro rfl (And.intro (Nat.le_of_ble_eq_true rfl) (And.intro (Nat.le_of_ble_eq_true rfl) (mjY_mono ty11 (fun q_ u12 ty12 h_ => ?_) (c_define (d := d) ty11 (k := 26) (by decide) h11.1 _ _ _ _ _ (by decide)))))))
  have g12 := h_
  intro _
  obtain ⟨rfl, -⟩ := id g12
  have h12 : TBk u12 27 := d_step h11 g12 (by decide +kernel) (by decide +kernel) (by decide +kernel) (by decide +kernel) (by decide +kernel)
  refine mjZ_y rfl rfl 7 _ _ _ _ ty12 ?_
  refine (And.intro (Nat.le_of_ble_eq_true rfl) (And.intro rfl (And.intro (Nat.le_of_ble_eq_true rfl) (And.intro (Nat.le_of_ble_eq_true rfl) (mjY_mono ty12 (fun q_ u13 ty13 h_ => ?_) (c_define (d := d) ty12 (k := 27) (by decide) h12.1 _ _ _ _ _ (by decide)))))))
  have g13 := h_
  intro _
  obtain ⟨rfl, -⟩ := id g13
  have h13 : TBk u13 28 := d_step h12 g13 (by decide +kernel) (by decide +kernel) (by decide +kernel) (by decide +kernel) (by decide +kernel)
  refine mjZ_y rfl rfl 7 _ _ _ _ ty13 ?_
  refine (And.intro (Nat.le_of_ble_eq_true rfl) (And.intro rfl (And.intro (Nat.le_of_ble_eq_true rfl) (And.intro (Nat.le_of_ble_eq_true rfl) (mjY_mono ty13 (fun q_ u14 ty14 h_ => ?_) (c_define (d := d) ty13 (k := 28) (by decide) h13.1 _ _ _ _ _ (by decide)))))))
  have g14 := h_
  intro _
  obtain ⟨rfl, -⟩ := id g14
  have h14 : TBk u14 29 := d_step h13 g14 (by decide +kernel) (by decide +kernel) (by decide +kernel) (by decide +kernel) (by decide +kernel)
  refine mjZ_y rfl rfl 7 _ _ _ _ ty14 ?_
  refine (And.intro (Nat.le_of_ble_eq_true rfl) (And.intro rfl (And.intro (Nat.le_of_ble_eq_true rfl) (And.intro (Nat.le_of_ble_eq_true rfl) (mjY_mono ty14 (fun q_ u15 ty15 h_ => ?_) (c_define (d := d) ty14 (k := 29) (by decide) h14.1 _ _ _ _ _ (by decide)))))))
  have g15 := h_
  intro _
  obtain ⟨rfl, -⟩ := id g15
  have h15 : TBk u15 30 := d_step h14 g15 (by decide +kernel) (by decide +kernel) (by decide +kernel) (by decide +kernel) (by decide +kernel)
  exact hK u15 ty15 (((((((((((((((g1.2.1).tr g2.2.1).tr g3.2.1).tr g4.2.1).tr g5.2.1).tr g6.2.1).tr g7.2.1).tr g8.2.1).tr g9.2.1).tr g10.2.1).tr g11.2.1).tr g12.2.1).tr g13.2.1).tr g14.2.1).tr g15.2.1) h15
set_option maxRecDepth 100000 in
theorem c_names_30 (K : mjK) {σ : mjS} (ty : mjTY σ) (h0 : TBk σ 30) (hK : ∀ u, mjTY u → Fr [f_defined] tbH σ u → TBk u 45 → mjY mjPP (mjQQ Y) (d + 1) 2 315 [some (.ref 0)] [] u K) : mjY mjPP (mjQQ Y) (d + 1) 2 210 [some (.ref 0)] [] σ K := by
  refine mjZ_y rfl rfl 7 _ _ _ _ ty ?_
  refine (And.intro (Nat.le_of_ble_eq_true rfl) (And.intro rfl (And.intro (Nat.le_of_ble_eq_true rfl) (And.intro (Nat.le_of_ble_eq_true rfl) (mjY_mono ty (fun q_ u1 ty1 h_ => ?_) (c_define (d := d) ty (k := 30) (by decide) h0.1 _ _ _ _ _ (by decide)))))))
  have g1 := h_
  intro _
  obtain ⟨rfl, -⟩ := id g1
  have h1 : TBk u1 31 := d_step h0 g1 (by decide +kernel) (by decide +kernel) (by decide +kernel) (by decide +kernel) (by decide +kernel)
  refine mjZ_y rfl rfl 7 _ _ _ _ ty1 ?_
  refine (And.intro (Nat.le_of_ble_eq_true rfl) (And.intro rfl (And.intro (Nat.le_of_ble_eq_true rfl) (And.intro (Nat.le_of_ble_eq_true rfl) (mjY_mono ty1 (fun q_ u2 ty2 h_ => ?_) (c_define (d := d) ty1 (k := 31) (by decide) h1.1 _ _ _ _ _ (by decide)))))))
  have g2 := h_
  intro _
  obtain ⟨rfl, -⟩ := id g2
  have h2 : TBk u2 32 := d_step h1 g2 (by decide +kernel) (by decide +kernel) (by decide +kernel) (by decide +kernel) (by decide +kernel)
  refine mjZ_y rfl rfl 7 _ _ _ _ ty2 ?_
  refine (And.intro (Nat.le_of_ble_eq_true rfl) (And.intro rfl (And.intro (Nat.le_of_ble_eq_true rfl) (And.intro (Nat.le_of_ble_eq_true rfl) (mjY_mono ty2 (fun q_ u3 ty3 h_ => ?_) (c_define (d := d) ty2 (k := 32) (by decide) h2.1 _ _ _ _ _ (by decide)))))))
  have g3 := h_
  intro _
  obtain ⟨rfl, -⟩ := id g3
  have h3 : TBk u3 33 := d_step h2 g3 (by decide +kernel) (by decide +kernel) (by decide +kernel) (by decide +kernel) (by decide +kernel)
  refine mjZ_y rfl rfl 7 _ _ _ _ ty3 ?_
  refine (And.intro (Nat.le_of_ble_eq_true rfl) (And.intro rfl (And.intro (Nat.le_of_ble_eq_true rfl) (And.intro (Nat.le_of_ble_eq_true rfl) (mjY_mono ty3 (fun q_ u4 ty4 h_ => ?_) (c_define (d := d) ty3 (k := 33) (by decide) h3.1 _ _ _ _ _ (by decide)))))))
  have g4 := h_
  intro _
  obtain ⟨rfl, -⟩ := id g4
  have h4 : TBk u4 34 := d_step h3 g4 (by decide +kernel) (by decide +kernel) (by decide +kernel) (by decide +kernel) (by decide +kernel)
  refine mjZ_y rfl rfl 7 _ _ _ _ ty4 ?_
  refine (And.intro (Nat.le_of_ble_eq_true rfl) (And.intro rfl (And.intro (Nat.le_of_ble_eq_true rfl) (And.intro (Nat.le_of_ble_eq_true rfl) (mjY_mono ty4 (fun q_ u5 ty5 h_ => ?_) (c_define (d := d) ty4 (k := 34) (by decide) h4.1 _ _ _ _ _ (by decide)))))))
  have g5 := h_
  intro _
  obtain ⟨rfl, -⟩ := id g5
  have h5 : TBk u5 35 := d_step h4 g5 (by decide +kernel) (by decide +kernel) (by decide +kernel) (by decide +kernel) (by decide +kernel)
  refine mjZ_y rfl rfl 7 _ _ _ _ ty5 ?_
  refine (And.intro (Nat.le_of_ble_eq_true rfl) (And.intro rfl (And.intro (Nat.le_of_ble_eq_true rfl) (And.intro (Nat.le_of_ble_eq_true rfl) (mjY_mono ty5 (fun q_ u6 ty6 h_ => ?_) (c_define (d := d) ty5 (k := 35) (by decide) h5.1 _ _ _ _ _ (by decide)))))))
  have g6 := h_
  intro _
  obtain ⟨rfl, -⟩ := id g6
  have h6 : TBk u6 36 := d_step h5 g6 (by decide +kernel) (by decide +kernel) (by decide +kernel) (by decide +kernel) (by decide +kernel)
  refine mjZ_y rfl rfl 7 _ _ _ _ ty6 ?_
  refine (And.intro (Nat.le_of_ble_eq_true rfl) (And.intro rfl (And.intro (Nat.le_of_ble_eq_true rfl) (And.intro (Nat.le_of_ble_eq_true rfl) (mjY_mono ty6 (fun q_ u7 ty7 h_ => ?_) (c_define (d := d) ty6 (k := 36) (by decide) h6.1 _ _ _ _ _ (by decide)))))))
  have g7 := h_
  intro _
  obtain ⟨rfl, -⟩ := id g7
  have h7 : TBk u7 37 := d_step h6 g7 (by decide +kernel) (by decide +kernel) (by decide +kernel) (by decide +kernel) (by decide +kernel)
  refine mjZ_y rfl rfl 7 _ _ _ _ ty7 ?_
  refine (And.intro (Nat.le_of_ble_eq_true rfl) (And.intro rfl (And.intro (Nat.le_of_ble_eq_true rfl) (And.intro (Nat.le_of_ble_eq_true rfl) (mjY_mono ty7 (fun q_ u8 ty8 h_ => ?_) (c_define (d := d) ty7 (k := 37) (by decide) h7.1 _ _ _ _ _ (by decide)))))))
  have g8 := h_
  intro _
  obtain ⟨rfl, -⟩ := id g8
  have h8 : TBk u8 38 := d_step h7 g8 (by decide +kernel) (by decide +kernel) (by decide +kernel) (by decide +kernel) (by decide +kernel)
  refine mjZ_y rfl rfl 7 _ _ _ _ ty8 ?_
  refine (And.intro (Nat.le_of_ble_eq_true rfl) (And.intro rfl (And.intro (Nat.le_of_ble_eq_true rfl) (And.intro (Nat.le_of_ble_eq_true rfl) (mjY_mono ty8 (fun q_ u9 ty9 h_ => ?_) (c_define (d := d) ty8 (k := 38) (by decide) h8.1 _ _ _ _ _ (by decide)))))))
  have g9 := h_
  intro _
  obtain ⟨rfl, -⟩ := id g9
  have h9 : TBk u9 39 := d_step h8 g9 (by decide +kernel) (by decide +kernel) (by decide +kernel) (by decide +kernel) (by decide +kernel)
  refine mjZ_y rfl rfl 7 _ _ _ _ ty9 ?_
  refine (And.intro (Nat.le_of_ble_eq_true rfl) (And.intro rfl (And.intro (Nat.le_of_ble_eq_true rfl) (And.intro (Nat.le_of_ble_eq_true rfl) (mjY_mono ty9 (fun q_ u10 ty10 h_ => ?_) (c_define (d := d) ty9 (k := 39) (by decide) h9.1 _ _ _ _ _ (by decide)))))))
  have g10 := h_
  intro _
  obtain ⟨rfl, -⟩ := id g10
  have h10 : TBk u10 40 := d_step h9 g10 (by decide +kernel) (by decide +kernel) (by decide +kernel) (by decide +kernel) (by decide +kernel)
  refine mjZ_y rfl rfl 7 _ _ _ _ ty10 ?_
  refine (And.intro (Nat.le_of_ble_eq_true rfl) (And.intro rfl (And.intro (Nat.le_of_ble_eq_true rfl) (And.intro (Nat.le_of_ble_eq_true rfl) (mjY_mono ty10 (fun q_ u11 ty11 h_ => ?_) (c_define (d := d) ty10 (k := 40) (by decide) h10.1 _ _ _ _ _ (by decide)))))))
  have g11 := h_
  intro _
  obtain ⟨rfl, -⟩ := id g11
  have h11 : TBk u11 41 := d_step h10 g11 (by decide +kernel) (by decide +kernel) (by decide +kernel) (by decide +kernel) (by decide +kernel)
  refine mjZ_y rfl rfl 7 _ _ _ _ ty11 ?_
  refine (And.intro (Nat.le_of_ble_eq_true rfl) (And.intro rfl (And.intro (Nat.le_of_ble_eq_true rfl) (And.intro (Nat.le_of_ble_eq_true rfl) (mjY_mono ty11 (fun q_ u12 ty12 h_ => ?_) (c_define (d := d) ty11 (k := 41) (by decide) h11.1 _ _ _ _ _ (by decide)))))))
  have g12 := h_
  intro _
  obtain ⟨rfl, -⟩ := id g12
  have h12 : TBk u12 42 := d_step h11 g12 (by decide +kernel) (by decide +kernel) (by decide +kernel) (by decide +kernel) (by decide +kernel)
  refine mjZ_y rfl rfl 7 _ _ _ _ ty12 ?_
  refine (And.intro (Nat.le_of_ble_eq_true rfl) (And.intro rfl (And.intro (Nat.le_of_ble_eq_true rfl) (And.intro (Nat.le_of_ble_eq_true rfl) (mjY_mono ty12 (fun q_ u13 ty13 h_ => ?_) (c_define (d := d) ty12 (k := 42) (by decide) h12.1 _ _ _ _ _ (by decide)))))))
  have g13 := h_
  intro _
  obtain ⟨rfl, -⟩ := id g13
  have h13 : TBk u13 43 := d_step h12 g13 (by decide +kernel) (by decide +kernel) (by decide +kernel) (by decide +kernel) (by decide +kernel)
  refine mjZ_y rfl rfl 7 _ _ _ _ ty13 ?_
  refine (And.intro (Nat.le_of_ble_eq_true rfl) (And.intro rfl (And.intro (Nat.le_of_ble_eq_true rfl) (And.intro (Nat.le_of_ble_eq_true rfl) (mjY_mono ty13 (fun q_ u14 ty14 h_ => ?_) (c_define (d := d) ty13 (k := 43) (by decide) h13.1 _ _ _ _ _ (by decide)))))))
  have g14 := h_
  intro _
  obtain ⟨rfl, -⟩ := id g14
  have h14 : TBk u14 44 := d_step h13 g14 (by decide +kernel) (by decide +kernel) (by decide +kernel) (by decide +kernel) (by decide +kernel)
  refine mjZ_y rfl rfl 7 _ _ _ _ ty14 ?_
  refine (And.intro (Nat.le_of_ble_eq_true rfl) (And.intro rfl (And.intro (Nat.le_of_ble_eq_true rfl) (And.intro (Nat.le_of_ble_eq_true rfl) (mjY_mono ty14 (fun q_ u15 ty15 h_ => ?_) (c_define (d := d) ty14 (k := 44) (by decide) h14.1 _ _ _ _ _ (by decide)))))))
  have g15 := h_
  intro _
  obtain ⟨rfl, -⟩ := id g15
  have h15 : TBk u15 45 := d_step h14 g15 (by decide +kernel) (by decide +kernel) (by decide +kernel) (by decide +kernel) (by decide +kernel)
  exact hK u15 ty15 (((((((((((((((g1.2.1).tr g2.2.1).tr g3.2.1).tr g4.2.1).tr g5.2.1).tr g6.2.1).tr g7.2.1).tr g8.2.1).tr g9.2.1).tr g10.2.1).tr g11.2.1).tr g12.2.1).tr g13.2.1).tr g14.2.1).tr g15.2.1) h15
set_option maxRecDepth 100000 in
theorem c_names_45 (K : mjK) {σ : mjS} (ty : mjTY σ) (h0 : TBk σ 45) (hK : ∀ u, mjTY u → Fr [f_defined] tbH σ u → TBk u 60 → mjY mjPP (mjQQ Y) (d + 1) 2 420 [some (.ref 0)] [] u K) : mjY mjPP (mjQQ Y) (d + 1) 2 315 [some (.ref 0)] [] σ K := by
  refine mjZ_y rfl rfl 7 _ _ _ _ ty ?_
  refine (And.intro (Nat.le_of_ble_eq_true rfl) (And.intro rfl (And.intro (Nat.le_of_ble_eq_true rfl) (And.intro (Nat.le_of_ble_eq_true rfl) (mjY_mono ty (fun q_ u1 ty1 h_ => ?_) (c_define (d := d) ty (k := 45) (by decide) h0.1 _ _ _ _ _ (by decide)))))))
  have g1 := h_
  intro _
  obtain ⟨rfl, -⟩ := id g1
  have h1 : TBk u1 46 := d_step h0 g1 (by decide +kernel) (by decide +kernel) (by decide +kernel) (by decide +kernel) (by decide +kernel)
  refine mjZ_y rfl rfl 7 _ _ _ _ ty1 ?_
  refine (And.intro (Nat.le_of_ble_eq_true rfl) (And.intro rfl (And.intro (Nat.le_of_ble_eq_true rfl) (And.intro (Nat.le_of_ble_eq_true rfl) (mjY_mono ty1 (fun q_ u2 ty2 h_ => ?_) (c_define (d := d) ty1 (k := 46) (by decide) h1.1 _ _ _ _ _ (by decide)))))))
  have g2 := h_
  intro _
  obtain ⟨rfl, -⟩ := id g2
  have h2 : TBk u2 47 := d_step h1 g2 (by decide +kernel) (by decide +kernel) (by decide +kernel) (by decide +kernel) (by decide +kernel)
  refine mjZ_y rfl rfl 7 _ _ _ _ ty2 ?_
  refine (And.intro (Nat.le_of_ble_eq_true rfl) (And.intro rfl (And.intro (Nat.le_of_ble_eq_true rfl) (And.intro (Nat.le_of_ble_eq_true rfl) (mjY_mono ty2 (fun q_ u3 ty3 h_ => ?_) (c_define (d := d) ty2 (k := 47) (by decide) h2.1 _ _ _ _ _ (by decide)))))))
  have g3 := h_
  intro _
  obtain ⟨rfl, -⟩ := id g3
  have h3 : TBk u3 48 := d_step h2 g3 (by decide +kernel) (by decide +kernel) (by decide +kernel) (by decide +kernel) (by decide +kernel)
  refine mjZ_y rfl rfl 7 _ _ _ _ ty3 ?_
  refine (And.intro (Nat.le_of_ble_eq_true rfl) (And.intro rfl (And.intro (Nat.le_of_ble_eq_true rfl) (And.intro (Nat.le_of_ble_eq_true rfl) (mjY_mono ty3 (fun q_ u4 ty4 h_ => ?_) (c_define (d := d) ty3 (k := 48) (by decide) h3.1 _ _ _ _ _ (by decide)))))))
  have g4 := h_
  intro _
  obtain ⟨rfl, -⟩ := id g4
  have h4 : TBk u4 49 := d_step h3 g4 (by decide +kernel) (by decide +kernel) (by decide +kernel) (by decide +kernel) (by decide +kernel)
  refine mjZ_y rfl rfl 7 _ _ _ _ ty4 ?_
  refine (And.intro (Nat.le_of_ble_eq_true rfl) (And.intro rfl (And.intro (Nat.le_of_ble_eq_true rfl) (And.intro (Nat.le_of_ble_eq_true rfl) (mjY_mono ty4 (fun q_ u5 ty5 h_ => ?_) (c_define (d := d) ty4 (k := 49) (by decide) h4.1 _ _ _ _ _ (by decide)))))))
  have g5 := h_
  intro _
  obtain ⟨rfl, -⟩ := id g5
  have h5 : TBk u5 50 := d_step h4 g5 (by decide +kernel) (by decide +kernel) (by decide +kernel) (by decide +kernel) (by decide +kernel)
  refine mjZ_y rfl rfl 7 _ _ _ _ ty5 ?_
  refine (And.intro (Nat.le_of_ble_eq_true rfl) (And.intro rfl (And.intro (Nat.le_of_ble_eq_true rfl) (And.intro (Nat.le_of_ble_eq_true rfl) (mjY_mono ty5 (fun q_ u6 ty6 h_ => ?_) (c_define (d := d) ty5 (k := 50) (by decide) h5.1 _ _ _ _ _ (by decide)))))))
  have g6 := h_
  intro _
  obtain ⟨rfl, -⟩ := id g6
  have h6 : TBk u6 51 := d_step h5 g6 (by decide +kernel) (by decide +kernel) (by decide +kernel) (by decide +kernel) (by decide +kernel)
  refine mjZ_y rfl rfl 7 _ _ _ _ ty6 ?_
  refine (And.intro (Nat.le_of_ble_eq_true rfl) (And.intro rfl (And.intro (Nat.le_of_ble_eq_true rfl) (And.intro (Nat.le_of_ble_eq_true rfl) (mjY_mono ty6 (fun q_ u7 ty7 h_ => ?_) (c_define (d := d) ty6 (k := 51) (by decide) h6.1 _ _ _ _ _ (by decide)))))))
  have g7 := h_
  intro _
  obtain ⟨rfl, -⟩ := id g7
  have h7 : TBk u7 52 := d_step h6 g7 (by decide +kernel) (by decide +kernel) (by decide +kernel) (by decide +kernel) (by decide +kernel)
  refine mjZ_y rfl rfl 7 _ _ _ _ ty7 ?_
  refine (And.intro (Nat.le_of_ble_eq_true rfl) (And.intro rfl (And.intro (Nat.le_of_ble_eq_true rfl) (And.intro (Nat.le_of_ble_eq_true rfl) (mjY_mono ty7 (fun q_ u8 ty8 h_ => ?_) (c_define (d := d) ty7 (k := 52) (by decide) h7.1 _ _ _ _ _ (by decide)))))))
  have g8 := h_
  intro _
  obtain ⟨rfl, -⟩ := id g8
  have h8 : TBk u8 53 := d_step h7 g8 (by decide +kernel) (by decide +kernel) (by decide +kernel) (by decide +kernel) (by decide +kernel)
  refine mjZ_y rfl rfl 7 _ _ _ _ ty8 ?_
  refine (And.intro (Nat.le_of_ble_eq_true rfl) (And.intro rfl (And.intro (Nat.le_of_ble_eq_true rfl) (And.intro (Nat.le_of_ble_eq_true rfl) (mjY_mono ty8 (fun q_ u9 ty9 h_ => ?_) (c_define (d := d) ty8 (k := 53) (by decide) h8.1 _ _ _ _ _ (by decide)))))))
  have g9 := h_
  intro _
  obtain ⟨rfl, -⟩ := id g9
  have h9 : TBk u9 54 := d_step h8 g9 (by decide +kernel) (by decide +kernel) (by decide +kernel) (by decide +kernel) (by decide +kernel)
  refine mjZ_y rfl rfl 7 _ _ _ _ ty9 ?_
  refine (And.intro (Nat.le_of_ble_eq_true rfl) (And.intro rfl (And.intro (Nat.le_of_ble_eq_true rfl) (And.intro (Nat.le_of_ble_eq_true rfl) (mjY_mono ty9 (fun q_ u10 ty10 h_ => ?_) (c_define (d := d) ty9 (k := 54) (by decide) h9.1 _ _ _ _ _ (by decide)))))))
  have g10 := h_
  intro _
  obtain ⟨rfl, -⟩ := id g10
  have h10 : TBk u10 55 := d_step h9 g10 (by decide +kernel) (by decide +kernel) (by decide +kernel) (by decide +kernel) (by decide +kernel)
  refine mjZ_y rfl rfl 7 _ _ _ _ ty10 ?_
  refine (And.intro (Nat.le_of_ble_eq_true rfl) (And.intro rfl (And.intro (Nat.le_of_ble_eq_true rfl) (And.intro (Nat.le_of_ble_eq_true rfl) (mjY_mono ty10 (fun q_ u11 ty11 h_ => ?_) (c_define (d := d) ty10 (k := 55) (by decide) h10.1 _ _ _ _ _ (by decide)))))))
  have g11 := h_
  intro _
  obtain ⟨rfl, -⟩ := id g11
  have h11 : TBk u11 56 := d_step h10 g11 (by decide +kernel) (by decide +kernel) (by decide +kernel) (by decide +kernel) (by decide +kernel)
  refine mjZ_y rfl rfl 7 _ _ _ _ ty11 ?_
  refine (And.intro (Nat.le_of_ble_eq_true rfl) (And.intro rfl (And.intro (Nat.le_of_ble_eq_true rfl) (And.intro (Nat.le_of_ble_eq_true rfl) (mjY_mono ty11 (fun q_ u12 ty12 h_ => ?_) (c_define (d := d) ty11 (k := 56) (by decide) h11.1 _ _ _ _ _ (by decide)))))))
  have g12 := h_
  intro _
  obtain ⟨rfl, -⟩ := id g12
  have h12 : TBk u12 57 := d_step h11 g12 (by decide +kernel) (by decide +kernel) (by decide +kernel) (by decide +kernel) (by decide +kernel)
  refine mjZ_y rfl rfl 7 _ _ _ _ ty12 ?_
  refine (And.intro (Nat.le_of_ble_eq_true rfl) (And.intro rfl (And.intro (Nat.le_of_ble_eq_true rfl) (And.intro (Nat.le_of_ble_eq_true rfl) (mjY_mono ty12 (fun q_ u13 ty13 h_ => ?_) (c_define (d := d) ty12 (k := 57) (by decide) h12.1 _ _ _ _ _ (by decide)))))))
  have g13 := h_
  intro _
  obtain ⟨rfl, -⟩ := id g13
  have h13 : TBk u13 58 := d_step h12 g13 (by decide +kernel) (by decide +kernel) (by decide +kernel) (by decide +kernel) (by decide +kernel)
  refine mjZ_y rfl rfl 7 _ _ _ _ ty13 ?_
  refine (And.intro (Nat.le_of_ble_eq_true rfl) (And.intro rfl (And.intro (Nat.le_of_ble_eq_true rfl) (And.intro (Nat.le_of_ble_eq_true rfl) (mjY_mono ty13 (fun q_ u14 ty14 h_ => ?_) (c_define (d := d) ty13 (k := 58) (by decide) h13.1 _ _ _ _ _ (by decide)))))))
  have g14 := h_
  intro _
  obtain ⟨rfl, -⟩ := id g14
  have h14 : TBk u14 59 := d_step h13 g14 (by decide +kernel) (by decide +kernel) (by decide +kernel) (by decide +kernel) (by decide +kernel)
  refine mjZ_y rfl rfl 7 _ _ _ _ ty14 ?_
  refine (And.intro (Nat.le_of_ble_eq_true rfl) (And.intro rfl (And.intro (Nat.le_of_ble_eq_true rfl) (And.intro (Nat.le_of_ble_eq_true rfl) (mjY_mono ty14 (fun q_ u15 ty15 h_ => ?_) (c_define (d := d) ty14 (k := 59) (by decide) h14.1 _ _ _ _ _ (by decide)))))))
  have g15 := h_
  intro _
  obtain ⟨rfl, -⟩ := id g15
  have h15 : TBk u15 60 := d_step h14 g15 (by decide +kernel) (by decide +kernel) (by decide +kernel) (by decide +kernel) (by decide +kernel)
  exact hK u15 ty15 (((((((((((((((g1.2.1).tr g2.2.1).tr g3.2.1).tr g4.2.1).tr g5.2.1).tr g6.2.1).tr g7.2.1).tr g8.2.1).tr g9.2.1).tr g10.2.1).tr g11.2.1).tr g12.2.1).tr g13.2.1).tr g14.2.1).tr g15.2.1) h15
set_option maxRecDepth 100000 in
theorem c_names_60 (K : mjK) {σ : mjS} (ty : mjTY σ) (h0 : TBk σ 60) (hK : ∀ u, mjTY u → Fr [f_defined] tbH σ u → TBk u 75 → mjY mjPP (mjQQ Y) (d + 1) 2 525 [some (.ref 0)] [] u K) : mjY mjPP (mjQQ Y) (d + 1) 2 420 [some (.ref 0)] [] σ K := by
  refine mjZ_y rfl rfl 7 _ _ _ _ ty ?_
  refine (And.intro (Nat.le_of_ble_eq_true rfl) (And.intro rfl (And.intro (Nat.le_of_ble_eq_true rfl) (And.intro (Nat.le_of_ble_eq_true rfl) (mjY_mono ty (fun q_ u1 ty1 h_ => ?_) (c_define (d := d) ty (k := 60) (by decide) h0.1 _ _ _ _ _ (by decide)))))))
  have g1 := h_
  intro _
  obtain ⟨rfl, -⟩ := id g1
  have h1 : TBk u1 61 := d_step h0 g1 (by decide +kernel) (by decide +kernel) (by decide +kernel) (by decide +kernel) (by decide +kernel)
  refine mjZ_y rfl rfl 7 _ _ _ _ ty1 ?_
  refine (And.intro (Nat.le_of_ble_eq_true rfl) (And.intro rfl (And.intro (Nat.le_of_ble_eq_true rfl) (And.intro (Nat.le_of_ble_eq_true rfl) (mjY_mono ty1 (fun q_ u2 ty2 h_ => ?_) (c_define (d := d) ty1 (k := 61) (by decide) h1.1 _ _ _ _ _ (by decide)))))))
  have g2 := h_
  intro _
  obtain ⟨rfl, -⟩ := id g2
  have h2 : TBk u2 62 := d_step h1 g2 (by decide +kernel) (by decide +kernel) (by decide +kernel) (by decide +kernel) (by decide +kernel)
  refine mjZ_y rfl rfl 7 _ _ _ _ ty2 ?_
  refine (And.intro (Nat.le_of_ble_eq_true rfl) (And.intro rfl (And.intro (Nat.le_of_ble_eq_true rfl) (And.intro (Nat.le_of_ble_eq_true rfl) (mjY_mono ty2 (fun q_ u3 ty3 h_ => ?_) (c_define (d := d) ty2 (k := 62) (by decide) h2.1 _ _ _ _ _ (by decide)))))))
  have g3 := h_
  intro _
  obtain ⟨rfl, -⟩ := id g3
  have h3 : TBk u3 63 := d_step h2 g3 (by decide +kernel) (by decide +kernel) (by decide +kernel) (by decide +kernel) (by decide +kernel)
  refine mjZ_y rfl rfl 7 _ _ _ _ ty3 ?_
  refine (And.intro (Nat.le_of_ble_eq_true rfl) (And.intro rfl (And.intro (Nat.le_of_ble_eq_true rfl) (And.intro (Nat.le_of_ble_eq_true rfl) (mjY_mono ty3 (fun q_ u4 ty4 h_ => ?_) (c_define (d := d) ty3 (k := 63) (by decide) h3.1 _ _ _ _ _ (by decide)))))))
  have g4 := h_
  intro _
  obtain ⟨rfl, -⟩ := id g4
  have h4 : TBk u4 64 := d_step h3 g4 (by decide +kernel) (by decide +kernel) (by decide +kernel) (by decide +kernel) (by decide +kernel)
  refine mjZ_y rfl rfl 7 _ _ _ _ ty4 ?_
  refine (And.intro (Nat.le_of_ble_eq_true rfl) (And.intro rfl (And.intro (Nat.le_of_ble_eq_true rfl) (And.intro (Nat.le_of_ble_eq_true rfl) (mjY_mono ty4 (fun q_ u5 ty5 h_ => ?_) (c_define (d := d) ty4 (k := 64) (by decide) h4.1 _ _ _ _ _ (by decide)))))))
  have g5 := h_
  intro _
  obtain ⟨rfl, -⟩ := id g5
  have h5 : TBk u5 65 := d_step h4 g5 (by decide +kernel) (by decide +kernel) (by decide +kernel) (by decide +kernel) (by decide +kernel)
  refine mjZ_y rfl rfl 7 _ _ _ _ ty5 ?_
  refine (And.intro (Nat.le_of_ble_eq_true rfl) (And.intro rfl (And.intro (Nat.le_of_ble_eq_true rfl) (And.intro (Nat.le_of_ble_eq_true rfl) (mjY_mono ty5 (fun q_ u6 ty6 h_ => ?_) (c_define (d := d) ty5 (k := 65) (by decide) h5.1 _ _ _ _ _ (by decide)))))))
  have g6 := h_
  intro _
  obtain ⟨rfl, -⟩ := id g6
  have h6 : TBk u6 66 := d_step h5 g6 (by decide +kernel) (by decide +kernel) (by decide +kernel) (by decide +kernel) (by decide +kernel)
  refine mjZ_y rfl rfl 7 _ _ _ _ ty6 ?_
  refine (And.intro (Nat.le_of_ble_eq_true rfl) (And.intro rfl (And.intro (Nat.le_of_ble_eq_true rfl) (And.intro (Nat.le_of_ble_eq_true rfl) (mjY_mono ty6 (fun q_ u7 ty7 h_ => ?_) (c_define (d := d) ty6 (k := 66) (by decide) h6.1 _ _ _ _ _ (by decide)))))))
  have g7 := h_
  intro _
  obtain ⟨rfl, -⟩ := id g7
  have h7 : TBk u7 67 := d_step h6 g7 (by decide +kernel) (by decide +kernel) (by decide +kernel) (by decide +kernel) (by decide +kernel)
  refine mjZ_y rfl rfl 7 _ _ _ _ ty7 ?_
  refine (And.intro (Nat.le_of_ble_eq_true rfl) (And.intro rfl (And.intro (Nat.le_of_ble_eq_true rfl) (And.intro (Nat.le_of_ble_eq_true rfl) (mjY_mono ty7 (fun q_ u8 ty8 h_ => ?_) (c_define (d := d) ty7 (k := 67) (by decide) h7.1 _ _ _ _ _ (by decide)))))))
  have g8 := h_
  intro _
  obtain ⟨rfl, -⟩ := id g8
  have h8 : TBk u8 68 := d_step h7 g8 (by decide +kernel) (by decide +kernel) (by decide +kernel) (by decide +kernel) (by decide +kernel)
  refine mjZ_y rfl rfl 7 _ _ _ _ ty8 ?_
  refine (And.intro (Nat.le_of_ble_eq_true rfl) (And.intro rfl (And.intro (Nat.le_of_ble_eq_true rfl) (And.intro (Nat.le_of_ble_eq_true rfl) (mjY_mono ty8 (fun q_ u9 ty9 h_ => ?_) (c_define (d := d) ty8 (k := 68) (by decide) h8.1 _ _ _ _ _ (by decide)))))))
  have g9 := h_
  intro _
  obtain ⟨rfl, -⟩ := id g9
  have h9 : TBk u9 69 := d_step h8 g9 (by decide +kernel) (by decide +kernel) (by decide +kernel) (by decide +kernel) (by decide +kernel)
  refine mjZ_y rfl rfl 7 _ _ _ _ ty9 ?_
  refine (And.intro (Nat.le_of_ble_eq_true rfl) (And.intro rfl (And.intro (Nat.le_of_ble_eq_true rfl) (And.intro (Nat.le_of_ble_eq_true rfl) (mjY_mono ty9 (fun q_ u10 ty10 h_ => ?_) (c_define (d := d) ty9 (k := 69) (by decide) h9.1 _ _ _ _ _ (by decide)))))))
  have g10 := h_
  intro _
  obtain ⟨rfl, -⟩ := id g10
  have h10 : TBk u10 70 := d_step h9 g10 (by decide +kernel) (by decide +kernel) (by decide +kernel) (by decide +kernel) (by decide +kernel)
  refine mjZ_y rfl rfl 7 _ _ _ _ ty10 ?_
  refine (And.intro (Nat.le_of_ble_eq_true rfl) (And.intro rfl (And.intro (Nat.le_of_ble_eq_true rfl) (And.intro (Nat.le_of_ble_eq_true rfl) (mjY_mono ty10 (fun q_ u11 ty11 h_ => ?_) (c_define (d := d) ty10 (k := 70) (by decide) h10.1 _ _ _ _ _ (by decide)))))))
  have g11 := h_
  intro _
  obtain ⟨rfl, -⟩ := id g11
  have h11 : TBk u11 71 := d_step h10 g11 (by decide +kernel) (by decide +kernel) (by decide +kernel) (by decide +kernel) (by decide +kernel)
  refine mjZ_y rfl rfl 7 _ _ _ _ ty11 ?_
  refine (And.intro (Nat.le_of_ble_eq_true rfl) (And.intro rfl (And.intro (Nat.le_of_ble_eq_true rfl) (And.intro (Nat.le_of_ble_eq_true rfl) (mjY_mono ty11 (fun q_ u12 ty12 h_ => ?_) (c_define (d := d) ty11 (k := 71) (by decide) h11.1 _ _ _ _ _ (by decide)))))))
  have g12 := h_
  intro _
  obtain ⟨rfl, -⟩ := id g12
  have h12 : TBk u12 72 := d_step h11 g12 (by decide +kernel) (by decide +kernel) (by decide +kernel) (by decide +kernel) (by decide +kernel)
  refine mjZ_y rfl rfl 7 _ _ _ _ ty12 ?_
  refine (And.intro (Nat.le_of_ble_eq_true rfl) (And.intro rfl (And.intro (Nat.le_of_ble_eq_true rfl) (And.intro (Nat.le_of_ble_eq_true rfl) (mjY_mono ty12 (fun q_ u13 ty13 h_ => ?_) (c_define (d := d) ty12 (k := 72) (by decide) h12.1 _ _ _ _ _ (by decide)))))))
  have g13 := h_
  intro _
  obtain ⟨rfl, -⟩ := id g13
  have h13 : TBk u13 73 := d_step h12 g13 (by decide +kernel) (by decide +kernel) (by decide +kernel) (by decide +kernel) (by decide +kernel)
  refine mjZ_y rfl rfl 7 _ _ _ _ ty13 ?_
  refine (And.intro (Nat.le_of_ble_eq_true rfl) (And.intro rfl (And.intro (Nat.le_of_ble_eq_true rfl) (And.intro (Nat.le_of_ble_eq_true rfl) (mjY_mono ty13 (fun q_ u14 ty14 h_ => ?_) (c_define (d := d) ty13 (k := 73) (by decide) h13.1 _ _ _ _ _ (by decide)))))))
  have g14 := h_
  intro _
  obtain ⟨rfl, -⟩ := id g14
  have h14 : TBk u14 74 := d_step h13 g14 (by decide +kernel) (by decide +kernel) (by decide +kernel) (by decide +kernel) (by decide +kernel)
  refine mjZ_y rfl rfl 7 _ _ _ _ ty14 ?_
  refine (And.intro (Nat.le_of_ble_eq_true rfl) (And.intro rfl (And.intro (Nat.le_of_ble_eq_true rfl) (And.intro (Nat.le_of_ble_eq_true rfl) (mjY_mono ty14 (fun q_ u15 ty15 h_ => ?_) (c_define (d := d) ty14 (k := 74) (by decide) h14.1 _ _ _ _ _ (by decide)))))))
  have g15 := h_
  intro _
  obtain ⟨rfl, -⟩ := id g15
  have h15 : TBk u15 75 := d_step h14 g15 (by decide +kernel) (by decide +kernel) (by decide +kernel) (by decide +kernel) (by decide +kernel)
  exact hK u15 ty15 (((((((((((((((g1.2.1).tr g2.2.1).tr g3.2.1).tr g4.2.1).tr g5.2.1).tr g6.2.1).tr g7.2.1).tr g8.2.1).tr g9.2.1).tr g10.2.1).tr g11.2.1).tr g12.2.1).tr g13.2.1).tr g14.2.1).tr g15.2.1) h15
set_option maxRecDepth 100000 in
theorem c_names_75 (K : mjK) {σ : mjS} (ty : mjTY σ) (h0 : TBk σ 75) (hK : ∀ u, mjTY u → Fr [f_defined] tbH σ u → TBk u 90 → mjY mjPP (mjQQ Y) (d + 1) 2 630 [some (.ref 0)] [] u K) : mjY mjPP (mjQQ Y) (d + 1) 2 525 [some (.ref 0)] [] σ K := by
  refine mjZ_y rfl rfl 7 _ _ _ _ ty ?_
  refine (And.intro (Nat.le_of_ble_eq_true rfl) (And.intro rfl (And.intro (Nat.le_of_ble_eq_true rfl) (And.intro (Nat.le_of_ble_eq_true rfl) (mjY_mono ty (fun q_ u1 ty1 h_ => ?_) (c_define (d := d) ty (k := 75) (by decide) h0.1 _ _ _ _ _ (by decide)))))))
  have g1 := h_
  intro _
  obtain ⟨rfl, -⟩ := id g1
  have h1 : TBk u1 76 := d_step h0 g1 (by decide +kernel) (by decide +kernel) (by decide +kernel) (by decide +kernel) (by decide +kernel)
  refine mjZ_y rfl rfl 7 _ _ _ _ ty1 ?_
  refine (And.intro (Nat.le_of_ble_eq_true rfl) (And.intro rfl (And.intro (Nat.le_of_ble_eq_true rfl) (And.intro (Nat.le_of_ble_eq_true rfl) (mjY_mono ty1 (fun q_ u2 ty2 h_ => ?_) (c_define (d := d) ty1 (k := 76) (by decide) h1.1 _ _ _ _ _ (by decide)))))))
  have g2 := h_
  intro _
  obtain ⟨rfl, -⟩ := id g2
  have h2 : TBk u2 77 := d_step h1 g2 (by decide +kernel) (by decide +kernel) (by decide +kernel) (by decide +kernel) (by decide +kernel)
  refine mjZ_y rfl rfl 7 _ _ _ _ ty2 ?_
  refine (And.intro (Nat.le_of_ble_eq_true rfl) (And.intro rfl (And.intro (Nat.le_of_ble_eq_true rfl) (And.intro (Nat.le_of_ble_eq_true rfl) (mjY_mono ty2 (fun q_ u3 ty3 h_ => ?_) (c_define (d := d) ty2 (k := 77) (by decide) h2.1 _ _ _ _ _ (by decide)))))))
  have g3 := h_
  intro _
  obtain ⟨rfl, -⟩ := id g3
  have h3 : TBk u3 78 := d_step h2 g3 (by decide +kernel) (by decide +kernel) (by decide +kernel) (by decide +kernel) (by decide +kernel)
  refine mjZ_y rfl rfl 7 _ _ _ _ ty3 ?_
  refine (And.intro (Nat.le_of_ble_eq_true rfl) (And.intro rfl (And.intro (Nat.le_of_ble_eq_true rfl) (And.intro (Nat.le_of_ble_eq_true rfl) (mjY_mono ty3 (fun q_ u4 ty4 h_ => ?_) (c_define (d := d) ty3 (k := 78) (by decide) h3.1 _ _ _ _ _ (by decide)))))))
  have g4 := h_
  intro _
  obtain ⟨rfl, -⟩ := id g4
  have h4 : TBk u4 79 := d_step h3 g4 (by decide +kernel) (by decide +kernel) (by decide +kernel) (by decide +kernel) (by decide +kernel)
  refine mjZ_y rfl rfl 7 _ _ _ _ ty4 ?_
  refine (And.intro (Nat.le_of_ble_eq_true rfl) (And.intro rfl (And.intro (Nat.le_of_ble_eq_true rfl) (And.intro (Nat.le_of_ble_eq_true rfl) (mjY_mono ty4 (fun q_ u5 ty5 h_ => ?_) (c_define (d := d) ty4 (k := 79) (by decide) h4.1 _ _ _ _ _ (by decide)))))))
  have g5 := h_
  intro _
  obtain ⟨rfl, -⟩ := id g5
  have h5 : TBk u5 80 := d_step h4 g5 (by decide +kernel) (by decide +kernel) (by decide +kernel) (by decide +kernel) (by decide +kernel)
  refine mjZ_y rfl rfl 7 _ _ _ _ ty5 ?_
  refine (And.intro (Nat.le_of_ble_eq_true rfl) (And.intro rfl (And.intro (Nat.le_of_ble_eq_true rfl) (And.intro (Nat.le_of_ble_eq_true rfl) (mjY_mono ty5 (fun q_ u6 ty6 h_ => ?_) (c_define (d := d) ty5 (k := 80) (by decide) h5.1 _ _ _ _ _ (by decide)))))))
  have g6 := h_
  intro _
  obtain ⟨rfl, -⟩ := id g6
  have h6 : TBk u6 81 := d_step h5 g6 (by decide +kernel) (by decide +kernel) (by decide +kernel) (by decide +kernel) (by decide +kernel)
  refine mjZ_y rfl rfl 7 _ _ _ _ ty6 ?_
  refine (And.intro (Nat.le_of_ble_eq_true rfl) (And.intro rfl (And.intro (Nat.le_of_ble_eq_true rfl) (And.intro (Nat.le_of_ble_eq_true rfl) (mjY_mono ty6 (fun q_ u7 ty7 h_ => ?_) (c_define (d := d) ty6 (k := 81) (by decide) h6.1 _ _ _ _ _ (by decide)))))))
  have g7 := h_
  intro _
  obtain ⟨rfl, -⟩ := id g7
  have h7 : TBk u7 82 := d_step h6 g7 (by decide +kernel) (by decide +kernel) (by decide +kernel) (by decide +kernel) (by decide +kernel)
  refine mjZ_y rfl rfl 7 _ _ _ _ ty7 ?_
  refine (And.intro (Nat.le_of_ble_eq_true rfl) (And.intro rfl (And.intro (Nat.le_of_ble_eq_true rfl) (And.intro (Nat.le_of_ble_eq_true rfl) (mjY_mono ty7 (fun q_ u8 ty8 h_ => ?_) (c_define (d := d) ty7 (k := 82) (by decide) h7.1 _ _ _ _ _ (by decide)))))))
  have g8 := h_
  intro _
  obtain ⟨rfl, -⟩ := id g8
  have h8 : TBk u8 83 := d_step h7 g8 (by decide +kernel) (by decide +kernel) (by decide +kernel) (by decide +kernel) (by decide +kernel)
  refine mjZ_y rfl rfl 7 _ _ _ _ ty8 ?_
  refine (And.intro (Nat.le_of_ble_eq_true rfl) (And.intro rfl (And.intro (Nat.le_of_ble_eq_true rfl) (And.intro (Nat.le_of_ble_eq_true rfl) (mjY_mono ty8 (fun q_ u9 ty9 h_ => ?_) (c_define (d := d) ty8 (k := 83) (by decide) h8.1 _ _ _ _ _ (by decide)))))))
  have g9 := h_
  intro _
  obtain ⟨rfl, -⟩ := id g9
  have h9 : TBk u9 84 := d_step h8 g9 (by decide +kernel) (by decide +kernel) (by decide +kernel) (by decide +kernel) (by decide +kernel)
  refine mjZ_y rfl rfl 7 _ _ _ _ ty9 ?_
  refine (And.intro (Nat.le_of_ble_eq_true rfl) (And.intro rfl (And.intro (Nat.le_of_ble_eq_true rfl) (And.intro (Nat.le_of_ble_eq_true rfl) (mjY_mono ty9 (fun q_ u10 ty10 h_ => ?_) (c_define (d := d) ty9 (k := 84) (by decide) h9.1 _ _ _ _ _ (by decide)))))))
  have g10 := h_
  intro _
  obtain ⟨rfl, -⟩ := id g10
  have h10 : TBk u10 85 := d_step h9 g10 (by decide +kernel) (by decide +kernel) (by decide +kernel) (by decide +kernel) (by decide +kernel)
  refine mjZ_y rfl rfl 7 _ _ _ _ ty10 ?_
  refine (And.intro (Nat.le_of_ble_eq_true rfl) (And.intro rfl (And.intro (Nat.le_of_ble_eq_true rfl) (And.intro (Nat.le_of_ble_eq_true rfl) (mjY_mono ty10 (fun q_ u11 ty11 h_ => ?_) (c_define (d := d) ty10 (k := 85) (by decide) h10.1 _ _ _ _ _ (by decide)))))))
  have g11 := h_
  intro _
  obtain ⟨rfl, -⟩ := id g11
  have h11 : TBk u11 86 := d_step h10 g11 (by decide +kernel) (by decide +kernel) (by decide +kernel) (by decide +kernel) (by decide +kernel)
  refine mjZ_y rfl rfl 7 _ _ _ _ ty11 ?_
  refine (And.intro (Nat.le_of_ble_eq_true rfl) (And.intro rfl (And.intro (Nat.le_of_ble_eq_true rfl) (And.intro (Nat.le_of_ble_eq_true rfl) (mjY_mono ty11 (fun q_ u12 ty12 h_ => ?_) (c_define (d := d) ty11 (k := 86) (by decide) h11.1 _ _ _ _ _ (by decide)))))))
  have g12 := h_
  intro _
  obtain ⟨rfl, -⟩ := id g12
  have h12 : TBk u12 87 := d_step h11 g12 (by decide +kernel) (by decide +kernel) (by decide +kernel) (by decide +kernel) (by decide +kernel)
  refine mjZ_y rfl rfl 7 _ _ _ _ ty12 ?_
  refine (And.intro (Nat.le_of_ble_eq_true rfl) (And.intro rfl (And.intro (Nat.le_of_ble_eq_true rfl) (And.intro (Nat.le_of_ble_eq_true rfl) (mjY_mono ty12 (fun q_ u13 ty13 h_ => ?_) (c_define (d := d) ty12 (k := 87) (by decide) h12.1 _ _ _ _ _ (by decide)))))))
  have g13 := h_
  intro _
  obtain ⟨rfl, -⟩ := id g13
  have h13 : TBk u13 88 := d_step h12 g13 (by decide +kernel) (by decide +kernel) (by decide +kernel) (by decide +kernel) (by decide +kernel)
  refine mjZ_y rfl rfl 7 _ _ _ _ ty13 ?_
  refine (And.intro (Nat.le_of_ble_eq_true rfl) (And.intro rfl (And.intro (Nat.le_of_ble_eq_true rfl) (And.intro (Nat.le_of_ble_eq_true rfl) (mjY_mono ty13 (fun q_ u14 ty14 h_ => ?_) (c_define (d := d) ty13 (k := 88) (by decide) h13.1 _ _ _ _ _ (by decide)))))))
  have g14 := h_
  intro _
  obtain ⟨rfl, -⟩ := id g14
  have h14 : TBk u14 89 := d_step h13 g14 (by decide +kernel) (by decide +kernel) (by decide +kernel) (by decide +kernel) (by decide +kernel)
  refine mjZ_y rfl rfl 7 _ _ _ _ ty14 ?_
  refine (And.intro (Nat.le_of_ble_eq_true rfl) (And.intro rfl (And.intro (Nat.le_of_ble_eq_true rfl) (And.intro (Nat.le_of_ble_eq_true rfl) (mjY_mono ty14 (fun q_ u15 ty15 h_ => ?_) (c_define (d := d) ty14 (k := 89) (by decide) h14.1 _ _ _ _ _ (by decide)))))))
  have g15 := h_
  intro _
  obtain ⟨rfl, -⟩ := id g15
  have h15 : TBk u15 90 := d_step h14 g15 (by decide +kernel) (by decide +kernel) (by decide +kernel) (by decide +kernel) (by decide +kernel)
  exact hK u15 ty15 (((((((((((((((g1.2.1).tr g2.2.1).tr g3.2.1).tr g4.2.1).tr g5.2.1).tr g6.2.1).tr g7.2.1).tr g8.2.1).tr g9.2.1).tr g10.2.1).tr g11.2.1).tr g12.2.1).tr g13.2.1).tr g14.2.1).tr g15.2.1) h15
set_option maxRecDepth 100000 in
theorem c_names_90 (K : mjK) {σ : mjS} (ty : mjTY σ) (h0 : TBk σ 90) (hK : ∀ u, mjTY u → Fr [f_defined] tbH σ u → TBk u 105 → mjY mjPP (mjQQ Y) (d + 1) 2 735 [some (.ref 0)] [] u K) : mjY mjPP (mjQQ Y) (d + 1) 2 630 [some (.ref 0)] [] σ K := by
  refine mjZ_y rfl rfl 7 _ _ _ _ ty ?_
  refine (And.intro (Nat.le_of_ble_eq_true rfl) (And.intro rfl (And.intro (Nat.le_of_ble_eq_true rfl) (And.intro (Nat.le_of_ble_eq_true rfl) (mjY_mono ty (fun q_ u1 ty1 h_ => ?_) (c_define (d := d) ty (k := 90) (by decide) h0.1 _ _ _ _ _ (by decide)))))))
  have g1 := h_
  intro _
  obtain ⟨rfl, -⟩ := id g1
  have h1 : TBk u1 91 := d_step h0 g1 (by decide +kernel) (by decide +kernel) (by decide +kernel) (by decide +kernel) (by decide +kernel)
  refine mjZ_y rfl rfl 7 _ _ _ _ ty1 ?_
  refine (And.intro (Nat.le_of_ble_eq_true rfl) (And.intro rfl (And.intro (Nat.le_of_ble_eq_true rfl) (And.intro (Nat.le_of_ble_eq_true rfl) (mjY_mono ty1 (fun q_ u2 ty2 h_ => ?_) (c_define (d := d) ty1 (k := 91) (by decide) h1.1 _ _ _ _ _ (by decide)))))))
  have g2 := h_
  intro _
  obtain ⟨rfl, -⟩ := id g2
  have h2 : TBk u2 92 := d_step h1 g2 (by decide +kernel) (by decide +kernel) (by decide +kernel) (by decide +kernel) (by decide +kernel)
  refine mjZ_y rfl rfl 7 _ _ _ _ ty2 ?_
  refine (And.intro (Nat.le_of_ble_eq_true rfl) (And.intro rfl (And.intro (Nat.le_of_ble_eq_true rfl) (And.intro (Nat.le_of_ble_eq_true rfl) (mjY_mono ty2 (fun q_ u3 ty3 h_ => ?_) (c_define (d := d) ty2 (k := 92) (by decide) h2.1 _ _ _ _ _ (by decide)))))))
  have g3 := h_
  intro _
  obtain ⟨rfl, -⟩ := id g3
  have h3 : TBk u3 93 := d_step h2 g3 (by decide +kernel) (by decide +kernel) (by decide +kernel) (by decide +kernel) (by decide +kernel)
  refine mjZ_y rfl rfl 7 _ _ _ _ ty3 ?_
  refine (And.intro (Nat.le_of_ble_eq_true rfl) (And.intro rfl (And.intro (Nat.le_of_ble_eq_true rfl) (And.intro (Nat.le_of_ble_eq_true rfl) (mjY_mono ty3 (fun q_ u4 ty4 h_ => ?_) (c_define (d := d) ty3 (k := 93) (by decide) h3.1 _ _ _ _ _ (by decide)))))))
  have g4 := h_
  intro _
  obtain ⟨rfl, -⟩ := id g4
  have h4 : TBk u4 94 := d_step h3 g4 (by decide +kernel) (by decide +kernel) (by decide +kernel) (by decide +kernel) (by decide +kernel)
  refine mjZ_y rfl rfl 7 _ _ _ _ ty4 ?_
  refine (And.intro (Nat.le_of_ble_eq_true rfl) (And.intro rfl (And.intro (Nat.le_of_ble_eq_true rfl) (And.intro (Nat.le_of_ble_eq_true rfl) (mjY_mono ty4 (fun q_ u5 ty5 h_ => ?_) (c_define (d := d) ty4 (k := 94) (by decide) h4.1 _ _ _ _ _ (by decide)))))))
  have g5 := h_
  intro _
  obtain ⟨rfl, -⟩ := id g5
  have h5 : TBk u5 95 := d_step h4 g5 (by decide +kernel) (by decide +kernel) (by decide +kernel) (by decide +kernel) (by decide +kernel)
  refine mjZ_y rfl rfl 7 _ _ _ _ ty5 ?_
  refine (And.intro (Nat.le_of_ble_eq_true rfl) (And.intro rfl (And.intro (Nat.le_of_ble_eq_true rfl) (And.intro (Nat.le_of_ble_eq_true rfl) (mjY_mono ty5 (fun q_ u6 ty6 h_ => ?_) (c_define (d := d) ty5 (k := 95) (by decide) h5.1 _ _ _ _ _ (by decide)))))))
  have g6 := h_
  intro _
  obtain ⟨rfl, -⟩ := id g6
  have h6 : TBk u6 96 := d_step h5 g6 (by decide +kernel) (by decide +kernel) (by decide +kernel) (by decide +kernel) (by decide +kernel)
  refine mjZ_y rfl rfl 7 _ _ _ _ ty6 ?_
  refine (And.intro (Nat.le_of_ble_eq_true rfl) (And.intro rfl (And.intro (Nat.le_of_ble_eq_true rfl) (And.intro (Nat.le_of_ble_eq_true rfl) (mjY_mono ty6 (fun q_ u7 ty7 h_ => ?_) (c_define (d := d) ty6 (k := 96) (by decide) h6.1 _ _ _ _ _ (by decide)))))))
  have g7 := h_
  intro _
  obtain ⟨rfl, -⟩ := id g7
  have h7 : TBk u7 97 := d_step h6 g7 (by decide +kernel) (by decide +kernel) (by decide +kernel) (by decide +kernel) (by decide +kernel)
  refine mjZ_y rfl rfl 7 _ _ _ _ ty7 ?_
  refine (And.intro (Nat.le_of_ble_eq_true rfl) (And.intro rfl (And.intro (Nat.le_of_ble_eq_true rfl) (And.intro (Nat.le_of_ble_eq_true rfl) (mjY_mono ty7 (fun q_ u8 ty8 h_ => ?_) (c_define (d := d) ty7 (k := 97) (by decide) h7.1 _ _ _ _ _ (by decide)))))))
  have g8 := h_
  intro _
  obtain ⟨rfl, -⟩ := id g8
  have h8 : TBk u8 98 := d_step h7 g8 (by decide +kernel) (by decide +kernel) (by decide +kernel) (by decide +kernel) (by decide +kernel)
  refine mjZ_y rfl rfl 7 _ _ _ _ ty8 ?_
  refine (And.intro (Nat.le_of_ble_eq_true rfl) (And.intro rfl (And.intro (Nat.le_of_ble_eq_true rfl) (And.intro (Nat.le_of_ble_eq_true rfl) (mjY_mono ty8 (fun q_ u9 ty9 h_ => ?_) (c_define (d := d) ty8 (k := 98) (by decide) h8.1 _ _ _ _ _ (by decide)))))))
  have g9 := h_
  intro _
  obtain ⟨rfl, -⟩ := id g9
  have h9 : TBk u9 99 := d_step h8 g9 (by decide +kernel) (by decide +kernel) (by decide +kernel) (by decide +kernel) (by decide +kernel)
  refine mjZ_y rfl rfl 7 _ _ _ _ ty9 ?_
  refine (And.intro (Nat.le_of_ble_eq_true rfl) (And.intro rfl (And.intro (Nat.le_of_ble_eq_true rfl) (And.intro (Nat.le_of_ble_eq_true rfl) (mjY_mono ty9 (fun q_ u10 ty10 h_ => ?_) (c_define (d := d) ty9 (k := 99) (by decide) h9.1 _ _ _ _ _ (by decide)))))))
  have g10 := h_
  intro _
  obtain ⟨rfl, -⟩ := id g10
  have h10 : TBk u10 100 := d_step h9 g10 (by decide +kernel) (by decide +kernel) (by decide +kernel) (by decide +kernel) (by decide +kernel)
  refine mjZ_y rfl rfl 7 _ _ _ _ ty10 ?_
  refine (And.intro (Nat.le_of_ble_eq_true rfl) (And.intro rfl (And.intro (Nat.le_of_ble_eq_true rfl) (And.intro (Nat.le_of_ble_eq_true rfl) (mjY_mono ty10 (fun q_ u11 ty11 h_ => ?_) (c_define (d := d) ty10 (k := 100) (by decide) h10.1 _ _ _ _ _ (by decide)))))))
  have g11 := h_
  intro _
  obtain ⟨rfl, -⟩ := id g11
  have h11 : TBk u11 101 := d_step h10 g11 (by decide +kernel) (by decide +kernel) (by decide +kernel) (by decide +kernel) (by decide +kernel)
  refine mjZ_y rfl rfl 7 _ _ _ _ ty11 ?_
  refine (And.intro (Nat.le_of_ble_eq_true rfl) (And.intro rfl (And.intro (Nat.le_of_ble_eq_true rfl) (And.intro (Nat.le_of_ble_eq_true rfl) (mjY_mono ty11 (fun q_ u12 ty12 h_ => ?_) (c_define (d := d) ty11 (k := 101) (by decide) h11.1 _ _ _ _ _ (by decide)))))))
  have g12 := h_
  intro _
  obtain ⟨rfl, -⟩ := id g12
  have h12 : TBk u12 102 := d_step h11 g12 (by decide +kernel) (by decide +kernel) (by decide +kernel) (by decide +kernel) (by decide +kernel)
  refine mjZ_y rfl rfl 7 _ _ _ _ ty12 ?_
  refine (And.intro (Nat.le_of_ble_eq_true rfl) (And.intro rfl (And.intro (Nat.le_of_ble_eq_true rfl) (And.intro (Nat.le_of_ble_eq_true rfl) (mjY_mono ty12 (fun q_ u13 ty13 h_ => ?_) (c_define (d := d) ty12 (k := 102) (by decide) h12.1 _ _ _ _ _ (by decide)))))))
  have g13 := h_
  intro _
  obtain ⟨rfl, -⟩ := id g13
  have h13 : TBk u13 103 := d_step h12 g13 (by decide +kernel) (by decide +kernel) (by decide +kernel) (by decide +kernel) (by decide +kernel)
  refine mjZ_y rfl rfl 7 _ _ _ _ ty13 ?_
  refine (And.intro (Nat.le_of_ble_eq_true rfl) (And.intro rfl (And.intro (Nat.le_of_ble_eq_true rfl) (And.intro (Nat.le_of_ble_eq_true rfl) (mjY_mono ty13 (fun q_ u14 ty14 h_ => ?_) (c_define (d := d) ty13 (k := 103) (by decide) h13.1 _ _ _ _ _ (by decide)))))))
  have g14 := h_
  intro _
  obtain ⟨rfl, -⟩ := id g14
  have h14 : TBk u14 104 := d_step h13 g14 (by decide +kernel) (by decide +kernel) (by decide +kernel) (by decide +kernel) (by decide +kernel)
  refine mjZ_y rfl rfl 7 _ _ _ _ ty14 ?_
  refine (And.intro (Nat.le_of_ble_eq_true rfl) (And.intro rfl (And.intro (Nat.le_of_ble_eq_true rfl) (And.intro (Nat.le_of_ble_eq_true rfl) (mjY_mono ty14 (fun q_ u15 ty15 h_ => ?_) (c_define (d := d) ty14 (k := 104) (by decide) h14.1 _ _ _ _ _ (by decide)))))))
  have g15 := h_
  intro _
  obtain ⟨rfl, -⟩ := id g15
  have h15 : TBk u15 105 := d_step h14 g15 (by decide +kernel) (by decide +kernel) (by decide +kernel) (by decide +kernel) (by decide +kernel)
  exact hK u15 ty15 (((((((((((((((g1.2.1).tr g2.2.1).tr g3.2.1).tr g4.2.1).tr g5.2.1).tr g6.2.1).tr g7.2.1).tr g8.2.1).tr g9.2.1).tr g10.2.1).tr g11.2.1).tr g12.2.1).tr g13.2.1).tr g14.2.1).tr g15.2.1) h15
set_option maxRecDepth 100000 in
theorem c_names1 {σ : mjS} (ty : mjTY σ) (h0 : TBk σ 0) : mjY mjPP (mjQQ Y) (d + 1) 2 0 (mjL0 1 [.ref 0]) [] σ (fun r u => r = none ∧ Fr [f_defined] tbH σ u ∧ TBk u 105) := by
  refine c_names_0 _ ty h0 (fun v0 tv0 fv0 hv0 => ?_)
  refine c_names_15 _ tv0 hv0 (fun v1 tv1 fv1 hv1 => ?_)
  refine c_names_30 _ tv1 hv1 (fun v2 tv2 fv2 hv2 => ?_)
  refine c_names_45 _ tv2 hv2 (fun v3 tv3 fv3 hv3 => ?_)
  refine c_names_60 _ tv3 hv3 (fun v4 tv4 fv4 hv4 => ?_)
  refine c_names_75 _ tv4 hv4 (fun v5 tv5 fv5 hv5 => ?_)
  refine c_names_90 _ tv5 hv5 (fun v6 tv6 fv6 hv6 => ?_)
  refine mjZ_y rfl rfl 1 _ _ _ _ tv6 ?_
  refine And.intro rfl (And.intro rfl ?_)
  exact ⟨rfl, ((((((fv0).tr fv1).tr fv2).tr fv3).tr fv4).tr fv5).tr fv6, hv6⟩
end NAMES1
