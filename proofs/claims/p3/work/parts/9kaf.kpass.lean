/-! Time passes. -/
def paF (b : Nat) : List (Nat × Nat) := (59, 16) :: xpF b
def MXC : Int64 := 4503599627370496
/-- the time may pass -/
def paG (σ : kS) (t : Int64) : Prop := (¬ t < 0) ∧ (¬ σ.1 0 17 = 0) ∧ t ≤ MXC - σ.2.1 59 16
/-- what the passing of time leaves -/
def paP (B : List (List Int32)) (b : Nat) (σ : kS) (nmm : List (List Int32)) (ks : List KC) (l : List Int32) (t : Int64) : kK := fun r u => (u = σ ∧ r = some (.int (-1)) ∧ ¬ paG σ t) ∨ (paG σ t ∧ (∃ y, r = some (.int y)) ∧ ∃ z, kTY z ∧ KG B z nmm (xpS (σ.2.1 59 16 + t) ks) ∧ (kBY z b (l ++ (xpG (σ.2.1 59 16 + t) ks).flatMap encR) ∧ z.1 b 3 = 0) ∧ z.2.1 59 16 = σ.2.1 59 16 + t ∧ Ch true (paF b) (xpO b) σ z ∧ BLJ z ∧ buP B b z nmm (xpS (σ.2.1 59 16 + t) ks) (l ++ (xpG (σ.2.1 59 16 + t) ks).flatMap encR) l.length none u)
section KPASS
variable {Y : Nat → MethodName × ByteArray} {d : Nat} {σ u : kS} {B ws nmm nmm' : List (List Int32)} {ks ks' : List KC} {j : Nat}
theorem pa_now {now t : Int64} (h0 : 0 ≤ now) (h1 : now ≤ MXC) (ht : ¬ t < 0) (h2 : t ≤ MXC - now) : now ≤ now + t ∧ now + t ≤ MXC := by
  have a0 := Int64.le_iff_toInt_le.mp h0
  have a1 := Int64.le_iff_toInt_le.mp h1
  have a2 := Int64.le_iff_toInt_le.mp (Int64.not_lt.mp ht)
  have a3 := Int64.le_iff_toInt_le.mp h2
  have e : MXC.toInt = 4503599627370496 := by decide
  have e0 : (0 : Int64).toInt = 0 := by decide
  rw [e] at a1
  rw [e0] at a0 a2
  have s : (MXC - now).toInt = 4503599627370496 - now.toInt := by
    rw [Int64.toInt_sub, e]; exact Int.bmod_eq_of_le (by omega) (by omega)
  rw [s] at a3
  have p : (now + t).toInt = now.toInt + t.toInt := by
    rw [Int64.toInt_add]; exact Int.bmod_eq_of_le (by omega) (by omega)
  exact ⟨Int64.le_iff_toInt_le.mpr (by omega), Int64.le_iff_toInt_le.mpr (by omega)⟩
theorem mxc_nev : MXC < NEV := by decide
theorem kx_pass (ty : kTY σ) (g : KG B σ nmm ks) (hj : BLJ σ) {b : Nat} (hb : b ∈ [5, 7]) (h10 : σ.2.2.1 0 10 = some b) {l : List Int32} (jn : kBY σ b l ∧ σ.1 b 3 = 0) (hc0 : 0 ≤ σ.2.1 59 16) (hc1 : σ.2.1 59 16 ≤ MXC) (t : Int64) (hl : paG σ t → (l ++ (xpG (σ.2.1 59 16 + t) ks).flatMap encR).length ≤ 210000) : kjY kPP (kQQ Y) (d + 8) 9 0 (mjL0 5 [.ref 0, .long t]) [] σ (paP B b σ nmm ks l t) := by
  obtain ⟨b1, b2, b3, b4, b5⟩ := J_ok b hb
  have bad : ∀ v3 v4, ¬ paG σ t → kjY kPP (kQQ Y) (d + 8) 9 15 [some (.ref 0), some (.long t), none, v3, v4] [] σ (paP B b σ nmm ks l t) := by
    intro v3 v4 h
    refine kjZ_y rfl rfl 2 _ _ _ _ ty ?_
    refine And.intro rfl (And.intro (Or.inl rfl) ?_)
    exact Or.inl ⟨rfl, rfl, h⟩
  refine kjZ_y rfl rfl 4 _ _ _ _ ty ?_
  refine And.intro (fun c => ?_) (fun c => ?_)
  · have c : t < 0 := by
      refine Int64.not_le.mp (fun z => ?_)
      exact absurd (show lg_cmp t 0 < 0 from c) (Int32.not_lt.mpr ((lg_cmp_ge _ _).mpr z))
    exact bad none none (fun z => z.1 c)
  have c : ¬ t < 0 := fun z => c (Int32.not_le.mp (fun y => absurd ((lg_cmp_ge _ _).mp y) (Int64.not_le.mpr z)))
  refine kjZ_y rfl rfl 3 _ _ _ _ ty ?_
  refine (And.intro (ty.k (by decide) rfl) (And.intro (fun c2 => ?_) (fun c2 => ?_)))
  · exact bad none none (fun z => z.2.1 c2)
  have c2 : ¬ σ.1 0 17 = 0 := c2
  refine kjZ_y rfl rfl 8 _ _ _ _ ty ?_
  refine (And.intro (ty.k (by decide) rfl) (And.intro (ty.k (by decide) rfl) (And.intro (fun c3 => ?_) (fun c3 => ?_))))
  rotate_left
  · refine bad none none (fun z => c3 ?_)
    have h3 : ¬ MXC - σ.2.1 59 16 < t := Int64.not_lt.mpr z.2.2
    refine Int32.not_lt.mp (fun y => h3 ?_)
    exact (lg_cmp_gt _ _).mp y
  have c3 : t ≤ MXC - σ.2.1 59 16 := by
    have c3 : lg_cmp t (MXC - σ.2.1 59 16) ≤ 0 := c3
    refine Int64.not_lt.mp (fun y => ?_)
    exact absurd ((lg_cmp_gt _ _).mpr y) (Int32.not_lt.mpr c3)
  have hG : paG σ t := ⟨c, c2, c3⟩
  obtain ⟨n1, n2⟩ := pa_now hc0 hc1 c c3
  have hn : σ.2.1 59 16 + t < NEV := Int64.lt_of_le_of_lt n2 mxc_nev
  refine kjZ_y rfl rfl 7 _ _ _ _ ty ?_
  refine (And.intro (ty.k (by decide) rfl) (And.intro (ty.k (by decide) rfl) (And.intro (ty.k (by decide) rfl) (And.intro rfl (fun ty' => ?_)))))
  have go : ∀ z, kTY z → z = (σ.1, mjLu σ.2.1 59 16 (σ.2.1 59 16 + t), σ.2.2) → kjY kPP (kQQ Y) (d + 8) 9 24 [some (.ref 0), some (.long t), none, none, none] [] z (paP B b σ nmm ks l t) := by
    intro z tz ez
    have gz : KG B z nmm ks := by rw [ez]; exact g.pl ty (by decide)
    have cz : Ch true [(59, 16)] [] σ z := by rw [ez]; exact Ch_l (by rw [ty.k (h := 59) (c := 4) (by decide) rfl]; decide)
    have qz : ∀ b ∈ [5, 7], ¬ b = 59 ∧ (∀ p ∈ xpO b, p ∈ OWs) ∧ (∀ p ∈ xpF b, p ∈ paF b) ∧ (59, 16) ∈ paF b ∧ ¬ (0, 10) ∈ xpF b ∧ (∀ c ∈ CNs, ¬ (c, 3) ∈ xpF b) ∧ ¬ (59, 16) ∈ xpF b := by decide +kernel
    obtain ⟨z1, z2, z3, z4, z5, z6, z7⟩ := qz b hb
    have jz : kBY z b l := jn.1.fr ty g.1.1 b1 cz (fun p hp => by rw [List.mem_singleton.mp hp]; exact fun y => z1 y.symm) (fun p hp => by cases hp)
    have zI : z.1 = σ.1 := by rw [ez]
    have zF : z.2.2.1 = σ.2.2.1 := by rw [ez]
    have zc : z.2.1 59 16 = σ.2.1 59 16 + t := by rw [ez]; show mjLu σ.2.1 59 16 (σ.2.1 59 16 + t) 59 16 = σ.2.1 59 16 + t; rw [mjLu_at, if_pos ⟨rfl, rfl⟩]
    have kb := ob_k tz b1
    have f10 : z.2.2.1 0 10 = some b := by rw [zF]; exact h10
    refine kjZ_y rfl rfl 4 _ _ _ _ tz ?_
    refine (And.intro (tz.k (by decide) rfl) (Exists.intro _ (And.intro f10 (And.intro (by assumption) (And.intro (Nat.le_of_ble_eq_true rfl) ?_)))))
    refine kjZ_y rfl rfl 2 _ _ _ _ tz ?_
    refine (And.intro (Nat.le_of_ble_eq_true rfl) (And.intro (Or.inl ⟨(Nat.le_of_ble_eq_true rfl), (tz.k (by decide) rfl)⟩) (And.intro (Nat.le_of_ble_eq_true rfl) (And.intro (Nat.le_of_ble_eq_true rfl) (kjY_mono tz (fun q_ u1 t1 xx1 h_ => ?_) (kx_xp (d := d) tz gz hb f10 ⟨jz, by rw [zI]; exact jn.2⟩ zc hn (hl hG)))))))
    obtain ⟨⟨y, rfl⟩, g1, j1, c1⟩ := h_
    intro _ _
    have cA : Ch true (paF b) (xpO b) σ u1 := Ch.tr ty z2 (cz.up (fun z => z) (fun p hp => by rw [List.mem_singleton.mp hp]; exact z4) (fun p hp => by cases hp)) (c1.up (fun z => z) z3 (fun p hp => hp))
    have g10 : u1.2.2.1 0 10 = some b := by rw [(c1.fld tz (h := 0) (x := 10) (c := 9) (by decide) rfl (by decide) z5).2.2]; exact f10
    have u16 : u1.2.1 59 16 = σ.2.1 59 16 + t := by rw [(c1.fld tz (h := 59) (x := 16) (c := 4) (by decide) rfl (by decide) z7).2.1]; exact zc
    have bj : BLJ u1 := (hj.e2 zF).e2f tz c1 z6
    refine kjZ_y rfl rfl 1 _ _ _ _ t1 ?_
    refine (And.intro (Nat.le_of_ble_eq_true rfl) ?_)
    refine kjZ_y rfl rfl 3 _ _ _ _ t1 ?_
    refine (And.intro (Nat.le_of_ble_eq_true rfl) (And.intro (Or.inl ⟨(Nat.le_of_ble_eq_true rfl), (t1.k (by decide) rfl)⟩) (And.intro (Nat.le_of_ble_eq_true rfl) (And.intro (Nat.le_of_ble_eq_true rfl) (kjY_mono t1 (fun q_ u2 t2 xx2 h_ => ?_) (kx_burn (d := d + 2) t1 g1 bj hb g10 j1.1 (n := l.length) (by rw [List.length_append]; omega) _ jz.sz.1))))))
    have q2 := h_
    intro _ _
    obtain ⟨rfl, -⟩ := id q2
    have fin : ∀ r, (∃ y, r = some (.int y)) → paP B b σ nmm ks l t r u2 := fun r hr => Or.inr ⟨hG, hr, u1, t1, g1, j1, u16, cA, bj, q2⟩
    refine kjZ_y rfl rfl 3 _ _ _ _ t2 ?_
    refine (And.intro (t2.k (by decide) rfl) (And.intro (fun c4 => ?_) (fun c4 => ?_)))
    · refine kjZ_y rfl rfl 2 _ _ _ _ t2 ?_
      refine And.intro rfl (And.intro (Or.inl rfl) ?_)
      exact fin _ ⟨_, rfl⟩
    · refine kjZ_y rfl rfl 3 _ _ _ _ t2 ?_
      refine And.intro rfl (And.intro (Or.inl rfl) ?_)
      exact fin _ ⟨_, rfl⟩
  exact go _ ty' rfl
end KPASS
