/-! The fuse burns; crash; tear. -/
def buF (b : Nat) : List (Nat × Nat) := (0, 16) :: (b, 2) :: haF
def buO (b : Nat) : List (Nat × Nat) := (b, 1) :: haO
theorem bu_in : ∀ b ∈ [5, 7], (∀ p ∈ [((b : Nat), (2 : Nat))], p ∈ buF b) ∧ (∀ p ∈ [((b : Nat), (1 : Nat))], p ∈ buO b) ∧ (∀ p ∈ haF, p ∈ buF b) ∧ (∀ p ∈ haO, p ∈ buO b) ∧ (∀ p ∈ buO b, p ∈ OWs) ∧ (∀ p ∈ haF, ¬ p.1 = b) ∧ (∀ p ∈ haO, p ∈ OWs ∧ ¬ p.1 = b) ∧ (0, 16) ∈ buF b := by decide +kernel
/-- what the fuse leaves of the log: all, or so much of it, and the server is gone -/
def buP (B : List (List Int32)) (b : Nat) (σ : kS) (nm : List (List Int32)) (ks : List KC) (l : List Int32) (n : Nat) : kK := fun r z => r = none ∧ ((KG B z nm ks ∧ kBY z b l ∧ iC [(0, 16)] σ z) ∨ (KG B z [] [] ∧ (∀ c ∈ CNs, CLRd z c) ∧ BLJ z ∧ z.1 0 17 = 0 ∧ z.1 0 13 = 0 ∧ Ch true (buF b) (buO b) σ z ∧ ∃ m, n ≤ m ∧ m ≤ l.length ∧ kBY z b (l.take m) ∧ z.1 b 3 = σ.1 b 3))
section KBURN
variable {Y : Nat → MethodName × ByteArray} {d : Nat} {σ u z : kS} {B ws nm nm' : List (List Int32)} {ks ks' : List KC}
theorem kBY.sz {b : Nat} {l : List Int32} (h : kBY σ b l) : σ.1 b 2 = nI l.length ∧ l.length < 2 ^ 30 := by
  obtain ⟨r, N, h⟩ := h
  exact ⟨h.2.2.2.2.1, by have := h.2.2.2.2.2.1; have := h.2.2.1.2; omega⟩
theorem kx_cutJ (ty : kTY σ) (g : KG B σ nm ks) {b : Nat} (hb : b ∈ OWb) {l : List Int32} (h : kBY σ b l) {m : Nat} (hm : m ≤ l.length) (x : Int32) (ex : x = nI m) : kjY kPP (kQQ Y) d 46 0 (mjL0 2 [.ref b, .int x]) [] σ (fun v u => v = none ∧ KG B u nm ks ∧ kBY u b (l.take m) ∧ u.1 b 3 = σ.1 b 3 ∧ Ch false [(b, 2)] [(b, 1)] σ u ∧ ∀ b' ∈ OWb, ¬ b' = b → ∀ l', kBY σ b' l' → kBY u b' l') := by
  have hlt := h.sz.2
  obtain ⟨r, N, hr⟩ := h
  have hbr := br_ne ty hb hr
  refine kjY_mono ty (fun q u tu xu z => ?_) (k_cut ty g.1.1 g.1.2 hb hr x)
  obtain ⟨z0, z1, z2, z3, z4, z5⟩ := z
  have e : (if 0 ≤ x ∧ x < nI l.length then l.take x.toNatClampNeg else l) = l.take m := by
    rw [ex, nI_clamp (by omega)]
    by_cases c : m < l.length
    · rw [if_pos ⟨nI_le (a := 0) (Nat.zero_le _) (by omega), nI_lt c (by omega)⟩]
    · rw [if_neg (fun y => absurd y.2 (Int32.not_lt.mpr (nI_le (by omega) (by omega)))), List.take_of_length_le (by omega)]
  rw [e] at z5
  obtain ⟨k1, k2⟩ := g.by_ ty hb z2.up2 z3 z4 ⟨r, N, z5⟩
  exact ⟨z0, k1, ⟨r, N, z5⟩, z1.2 b 3 hbr (fun y => absurd y.2 (by decide)), z2, k2⟩
theorem kx_burn (ty : kTY σ) (g : KG B σ nm ks) (hj : BLJ σ) {b : Nat} (hb : b ∈ [5, 7]) (h10 : σ.2.2.1 0 10 = some b) {l : List Int32} (h : kBY σ b l) {n : Nat} (hn : n ≤ l.length) (x : Int32) (ex : x = nI n) : kjY kPP (kQQ Y) (d + 5) 23 0 (mjL0 3 [.ref 0, .int x]) [] σ (buP B b σ nm ks l n) := by
  obtain ⟨b1, b2, b3, b4, b5⟩ := J_ok b hb
  have kb := ob_k ty b1
  obtain ⟨hs, hlt⟩ := h.sz
  have ew : σ.1 b 2 - x = nI (l.length - n) := by rw [hs, ex]; exact pk_sub (by omega)
  refine kjZ_y rfl rfl 9 _ _ _ _ ty ?_
  refine (And.intro (ty.k (by decide) rfl) (Exists.intro _ (And.intro h10 (And.intro (by assumption) (And.intro (Nat.le_of_ble_eq_true rfl) (And.intro (ty.k (by decide) rfl) (And.intro (fun c => ?_) (fun c => ?_))))))))
  rotate_left
  · refine kjZ_y rfl rfl 1 _ _ _ _ ty ?_
    refine And.intro rfl (And.intro rfl ?_)
    exact ⟨rfl, Or.inl ⟨g, h, iC.rf⟩⟩
  have c : ¬ σ.1 0 16 < 0 := Int32.not_lt.mpr (show 0 ≤ σ.1 0 16 from c)
  refine kjZ_y rfl rfl 4 _ _ _ _ ty ?_
  refine (And.intro (ty.k (by decide) rfl) (And.intro (fun c2 => ?_) (fun c2 => ?_)))
  rotate_left
  · refine kjZ_y rfl rfl 7 _ _ _ _ ty ?_
    refine (And.intro (ty.k (by decide) rfl) (And.intro (ty.k (by decide) rfl) (And.intro (Or.inl rfl) (fun ty' => And.intro rfl (And.intro rfl ?_)))))
    have fin : ∀ z, z = (mjIu σ.1 0 16 (σ.1 0 16 - (σ.1 b 2 - x)), σ.2) → buP B b σ nm ks l n none z := by
      intro z ez
      obtain ⟨g1, o1⟩ := g.pi2 ty (h := 0) (x := 16) (by decide) ez
      exact ⟨rfl, Or.inl ⟨g1, o1 b b1 _ h, iC_1 List.mem_cons_self ez⟩⟩
    exact fin _ rfl
  have c2 : σ.1 0 16 < σ.1 b 2 - x := c2
  rw [ew] at c2
  obtain ⟨f, ef, hf⟩ := nat_of (n := l.length - n) (by omega) c c2
  have em : x + σ.1 0 16 = nI (n + f) := by rw [ex, ef, nI_add]
  obtain ⟨u1', u2', u3', u4', u5', u6', u7', u8'⟩ := bu_in b hb
  refine kjZ_y rfl rfl 7 _ _ _ _ ty ?_
  refine (And.intro (ty.k (by decide) rfl) (Exists.intro _ (And.intro h10 (And.intro (ty.k (by decide) rfl) (And.intro (Nat.le_of_ble_eq_true rfl) (And.intro (Or.inl ⟨(Nat.le_of_ble_eq_true rfl), (by assumption)⟩) (And.intro (Nat.le_of_ble_eq_true rfl) (And.intro (Nat.le_of_ble_eq_true rfl) (kjY_mono ty (fun q_ u1 ty1 xu1 h_ => ?_) (kx_cutJ (d := d + 4) ty g b1 h (m := n + f) (by omega) _ em))))))))))
  obtain ⟨rfl, g1, k1, f1, c1, -⟩ := h_
  intro _ _
  refine kjZ_y rfl rfl 3 _ _ _ _ ty1 ?_
  refine (And.intro (ty1.k (by decide) rfl) (And.intro (Or.inl rfl) (fun ty1' => ?_)))
  have go : ∀ v, kTY v → v = (mjIu u1.1 0 16 (Int32.ofInt 0), u1.2) → kjY kPP (kQQ Y) (d + 5) 23 31 [some (.ref 0), some (.int x), some (.int (σ.1 b 2 - x))] [] v (buP B b σ nm ks l n) := by
    intro v tv ev
    obtain ⟨g2, o2⟩ := g1.pi2 ty1 (h := 0) (x := 16) (by decide) ev
    have bj : BLJ v := (hj.e2f ty c1 (fun c hc z => by
      have q : ∀ c ∈ CNs, ∀ b ∈ [5, 7], ¬ ((c, 3) : Nat × Nat) = (b, 2) := by decide +kernel
      exact q c hc b hb (List.mem_singleton.mp z))).e2 (by rw [ev])
    refine kjZ_y rfl rfl 2 _ _ _ _ tv ?_
    refine (And.intro (Nat.le_of_ble_eq_true rfl) (And.intro (Or.inl ⟨(Nat.le_of_ble_eq_true rfl), (tv.k (by decide) rfl)⟩) (And.intro (Nat.le_of_ble_eq_true rfl) (And.intro (Nat.le_of_ble_eq_true rfl) (kjY_mono tv (fun q_ v2 tv2 xv2 h_ => ?_) (kG_halt (d := d) tv g2 bj))))))
    obtain ⟨rfl, g3, l3, bj3, z17, z13, c3⟩ := h_
    intro _ _
    refine kjZ_y rfl rfl 1 _ _ _ _ tv2 ?_
    refine And.intro rfl (And.intro rfl ?_)
    have ch2 : Ch true (buF b) (buO b) u1 v := by
      rw [ev]; exact (Ch_i (by rw [ty1.k (h := 0) (c := 9) (by decide) rfl]; decide)).up (fun z => z) (fun p hp => by rw [List.mem_singleton.mp hp]; exact u8') (fun p hp => by cases hp)
    have v3 : v.1 b 3 = u1.1 b 3 := by rw [ev]; show mjIu u1.1 0 16 _ b 3 = _; rw [mjIu_at, if_neg (fun y => b4 y.1)]
    have qk : ∀ b ∈ [5, 7], (kd0 b).1 = 0 := by decide
    refine ⟨rfl, Or.inr ⟨g3, l3, bj3, z17, z13, Ch.tr ty u5' (Ch.tr ty u5' (c1.up (fun _ => rfl) u1' u2') ch2) (c3.up (fun z => z) u3' u4'), n + f, by omega, by omega, ?_, ?_⟩⟩
    · exact (o2 b b1 _ k1).fr tv g2.1.1 b1 c3 u6' u7'
    · rw [(c3.fld tv b5 (qk b hb) (by decide) (fun z => u6' _ z rfl)).1, v3, f1]
  exact go _ ty1' rfl
theorem kx_crash (ty : kTY σ) (g : KG B σ nm ks) (hj : BLJ σ) : kjY kPP (kQQ Y) (d + 5) 12 0 (mjL0 1 [.ref 0]) [] σ (fun r z => (∃ y, r = some (.int y)) ∧ (z = σ ∧ σ.1 0 17 = 0 ∨ haP B σ none z)) := by
  refine kjZ_y rfl rfl 3 _ _ _ _ ty ?_
  refine (And.intro (ty.k (by decide) rfl) (And.intro (fun c => ?_) (fun c => ?_)))
  · refine kjZ_y rfl rfl 2 _ _ _ _ ty ?_
    refine (And.intro (Nat.le_of_ble_eq_true rfl) (And.intro (Or.inl ⟨(Nat.le_of_ble_eq_true rfl), (ty.k (by decide) rfl)⟩) (And.intro (Nat.le_of_ble_eq_true rfl) (And.intro (Nat.le_of_ble_eq_true rfl) (kjY_mono ty (fun q_ u1 ty1 xu1 h_ => ?_) (kG_halt (d := d) ty g hj))))))
    have q := h_
    intro _ _
    obtain ⟨rfl, q'⟩ := id q
    refine kjZ_y rfl rfl 2 _ _ _ _ ty1 ?_
    refine And.intro rfl (And.intro (Or.inr (Or.inl ⟨rfl, Or.inr rfl⟩)) ?_)
    exact ⟨⟨_, rfl⟩, Or.inr q⟩
  · refine kjZ_y rfl rfl 2 _ _ _ _ ty ?_
    refine And.intro rfl (And.intro (Or.inr (Or.inl ⟨rfl, Or.inl rfl⟩)) ?_)
    exact ⟨⟨_, rfl⟩, Or.inl ⟨rfl, Decidable.not_not.mp c⟩⟩
theorem kx_tear (ty : kTY σ) (g : KG B σ nm ks) {b : Nat} (hb : b ∈ [5, 7]) (h10 : σ.2.2.1 0 10 = some b) {l : List Int32} (h : kBY σ b l) (x : Int32) : kjY kPP (kQQ Y) (d + 1) 17 0 (mjL0 2 [.ref 0, .int x]) [] σ (fun r u => (∃ y, r = some (.int y)) ∧ (u = σ ∨ (σ.1 0 17 = 0 ∧ KG B u nm ks ∧ ∃ m, m ≤ l.length ∧ kBY u b (l.take m) ∧ u.1 b 3 = σ.1 b 3 ∧ Ch false [(b, 2)] [(b, 1)] σ u))) := by
  obtain ⟨b1, b2, b3, b4, b5⟩ := J_ok b hb
  have kb := ob_k ty b1
  obtain ⟨hs, hlt⟩ := h.sz
  have no : kjY kPP (kQQ Y) (d + 1) 17 10 [some (.ref 0), some (.int x)] [] σ (fun r u => (∃ y, r = some (.int y)) ∧ (u = σ ∨ (σ.1 0 17 = 0 ∧ KG B u nm ks ∧ ∃ m, m ≤ l.length ∧ kBY u b (l.take m) ∧ u.1 b 3 = σ.1 b 3 ∧ Ch false [(b, 2)] [(b, 1)] σ u))) := by
    refine kjZ_y rfl rfl 2 _ _ _ _ ty ?_
    refine And.intro rfl (And.intro (Or.inr (Or.inl ⟨rfl, Or.inl rfl⟩)) ?_)
    exact ⟨⟨_, rfl⟩, Or.inl rfl⟩
  refine kjZ_y rfl rfl 3 _ _ _ _ ty ?_
  refine (And.intro (ty.k (by decide) rfl) (And.intro (fun c => ?_) (fun c => ?_)))
  · exact no
  have c : σ.1 0 17 = 0 := Decidable.not_not.mp c
  refine kjZ_y rfl rfl 2 _ _ _ _ ty ?_
  refine And.intro (fun c2 => ?_) (fun c2 => ?_)
  · exact no
  refine kjZ_y rfl rfl 5 _ _ _ _ ty ?_
  refine (And.intro (ty.k (by decide) rfl) (Exists.intro _ (And.intro h10 (And.intro (by assumption) (And.intro (fun c3 => ?_) (fun c3 => ?_))))))
  rotate_left
  · exact no
  have c2 : ¬ x < 0 := c2
  have c3 : x ≤ σ.1 b 2 := c3
  rw [hs] at c3
  obtain ⟨m, em, hm⟩ := nat_of (n := l.length + 1) (by omega) c2 (Int32.lt_of_le_of_lt c3 (nI_lt (Nat.lt_succ_self _) (by omega)))
  refine kjZ_y rfl rfl 4 _ _ _ _ ty ?_
  refine (And.intro (ty.k (by decide) rfl) (Exists.intro _ (And.intro h10 (And.intro (Nat.le_of_ble_eq_true rfl) (And.intro (Or.inl ⟨(Nat.le_of_ble_eq_true rfl), (by assumption)⟩) (And.intro (Nat.le_of_ble_eq_true rfl) (And.intro (Nat.le_of_ble_eq_true rfl) (kjY_mono ty (fun q_ u1 ty1 xu1 h_ => ?_) (kx_cutJ (d := d) ty g b1 h (m := m) (by omega) _ em)))))))))
  obtain ⟨rfl, g1, k1, f1, c1, -⟩ := h_
  intro _ _
  refine kjZ_y rfl rfl 2 _ _ _ _ ty1 ?_
  refine And.intro rfl (And.intro (Or.inr (Or.inl ⟨rfl, Or.inr rfl⟩)) ?_)
  exact ⟨⟨_, rfl⟩, Or.inr ⟨c, g1, m, by omega, k1, f1, c1⟩⟩
end KBURN
