/-! More small calls. -/
/-- ints alone have changed, of these fields -/
def iC (fs : List (Nat × Nat)) (σ u : kS) : Prop := u.2 = σ.2 ∧ ∀ h x, ¬ (h, x) ∈ fs → u.1 h x = σ.1 h x
def opF : List (Nat × Nat) := CNs.flatMap (fun c => [(c, 0), (c, 4), (c, 5), (c, 6), (c, 7), (c, 9), (c, 11), (c + 1, 2), (c + 1, 3), (c + 3, 2), (c + 3, 3)]) ++ payB.flatMap (fun b => [(b, 2), (b, 3)])
theorem opF_ok : ∀ p ∈ opF, p.1 < 76 ∧ (kd0 p.1).1 < 20 ∧ ¬ p.1 ∈ [0, 1, 5, 7, 53, 59] := by decide +kernel
theorem opF_in : (∀ c ∈ CNs, (∀ x ∈ [0, 4, 5, 6, 7, 9, 11], (c, x) ∈ opF) ∧ (∀ x ∈ [2, 3], (c + 1, x) ∈ opF ∧ (c + 3, x) ∈ opF)) ∧ ∀ b ∈ payB, ∀ x ∈ [2, 3], (b, x) ∈ opF := by decide +kernel
section KOPEN
variable {Y : Nat → MethodName × ByteArray} {d : Nat} {σ u : kS} {B ws nm nm' : List (List Int32)} {ks ks' : List KC} {fs gs : List (Nat × Nat)}
theorem iC.rf : iC fs σ σ := ⟨rfl, fun _ _ _ => rfl⟩
theorem iC.tr {v : kS} (a : iC fs σ u) (b : iC fs u v) : iC fs σ v := ⟨b.1.trans a.1, fun h x n => (b.2 h x n).trans (a.2 h x n)⟩
theorem iC.up (a : iC fs σ u) (h : ∀ p ∈ fs, p ∈ gs) : iC gs σ u := ⟨a.1, fun y x n => a.2 y x (fun z => n (h _ z))⟩
theorem iC_1 {h x : Nat} {v : Int32} (hm : (h, x) ∈ fs) (eu : u = (mjIu σ.1 h x v, σ.2)) : iC fs σ u := ⟨by rw [eu], fun y z n => by
  rw [eu]; show mjIu σ.1 h x v y z = _
  rw [mjIu_at, if_neg (fun q => n (by rw [q.1, q.2]; exact hm))]⟩
theorem iC_2 {b : Nat} (h2 : (b, 2) ∈ fs) (h3 : (b, 3) ∈ fs) (eu : u = (mjIu (mjIu σ.1 b 2 0) b 3 0, σ.2)) : iC fs σ u := ⟨by rw [eu], fun y z n => by
  rw [eu]; show mjIu (mjIu σ.1 b 2 0) b 3 0 y z = _
  rw [mjIu_at, mjIu_at, if_neg (fun q => n (by rw [q.1, q.2]; exact h3)), if_neg (fun q => n (by rw [q.1, q.2]; exact h2))]⟩
theorem iC.ch (ty : kTY σ) (a : iC opF σ u) : Ch true opF [] σ u := Ch_ints a.1 (fun h x n => a.2 h x n) (fun p hp => by rw [ty.2.2.1 p.1 (opF_ok p hp).1]; exact (opF_ok p hp).2.1)
theorem iC.by_ (ty : kTY σ) (ow : OWN σ) (a : iC opF σ u) {b : Nat} (hb : b ∈ [1, 5, 7]) {l : List Int32} (h : kBY σ b l) : kBY u b l := by
  have q : ∀ b ∈ [1, 5, 7], b ∈ OWb ∧ b ∈ [0, 1, 5, 7, 53, 59] := by decide
  exact h.fr ty ow (q b hb).1 (a.ch ty) (fun p hp z => (opF_ok p hp).2.2 (by rw [z]; exact (q b hb).2)) (fun p hp => by cases hp)
theorem BLK.iC (h : BLK σ) (a : iC fs σ u) : BLK u := fun c hc => by
  obtain ⟨bk, h1, h2⟩ := h c hc
  exact ⟨bk, h1, by rw [show u.2.2.1 = σ.2.2.1 from congrArg (fun t => t.2.1) a.1]; exact h2⟩
theorem BLJ.iC (h : BLJ σ) (a : iC fs σ u) : BLJ u := ⟨h.1.iC a, fun c hc c' hc' z => h.2 c hc c' hc' (by rw [show u.2.2.1 = σ.2.2.1 from congrArg (fun t => t.2.1) a.1] at z; exact z)⟩
theorem kC_close (ty : kTY σ) (g : KG B σ nm ks) (hb : BLJ σ) {c : Nat} (hc : c ∈ CNs) : kjY kPP (kQQ Y) (d + 2) 63 0 (mjL0 1 [.ref c]) [] σ (fun r z => r = none ∧ KG B z nm ks ∧ iC opF σ z ∧ kBY z (c + 1) [] ∧ z.1 (c + 1) 3 = 0 ∧ z.1 c 0 = 0 ∧ CQ [] σ z) := by
  obtain ⟨bk, h1, h2⟩ := hb.1 c hc
  obtain ⟨b1, b2, b3, b4, b5, b6, b7, b8, b9⟩ := payB_ok bk h1
  refine kjY_mono ty (fun r z tz xz h => ?_) (k_close ty g hc b1 (b7 c hc).1 h2)
  obtain ⟨hr, kg, t1, e1, t3, e3, t5, t6, e0, -, t9⟩ := h
  obtain ⟨e2, eI⟩ := id t6
  refine ⟨hr, kg, ⟨e2, fun h x n => eI h x (fun y => n ?_) (fun y => n ?_) (fun y => n ?_)⟩, e1, e3, e0, CQ_close hb hc h1 h2 t1 e1 t3 e3 t5 t6 e0 t9⟩
  · rw [y.1]; exact (opF_in.1 c hc).1 x y.2
  · rw [y.1]; exact ((opF_in.1 c hc).2 x y.2).1
  · rw [y.1]; exact opF_in.2 bk h1 x y.2
theorem kx_open (ty : kTY σ) (g : KG B σ nm ks) (hb : BLJ σ) (x : Int32) : kjY kPP (kQQ Y) (d + 3) 4 0 (mjL0 3 [.ref 0, .int x]) [] σ (fun r u => (∃ y, r = some (.int y)) ∧ KG B u nm ks ∧ iC opF σ u ∧ (u = σ ∨ ((¬ σ.1 0 17 = 0) ∧ ∃ c ∈ CNs, EMb (c + 1) u ∧ CQ [c] σ u))) := by
  refine kjZ_y rfl rfl 3 _ _ _ _ ty ?_
  refine (And.intro (Nat.le_of_ble_eq_true rfl) (And.intro (Or.inl ⟨(Nat.le_of_ble_eq_true rfl), (ty.k (by decide) rfl)⟩) (And.intro (Nat.le_of_ble_eq_true rfl) (And.intro (Nat.le_of_ble_eq_true rfl) (kjY_mono ty (fun q_ u1 ty1 xu1 h_ => ?_) (k_connOf ty x))))))
  obtain ⟨rfl, q⟩ := h_
  intro _ _
  rcases q with rfl | ⟨c, hc, rfl⟩
  · refine kjZ_y rfl rfl 5 _ _ _ _ ty1 ?_
    refine (And.intro (Nat.le_of_ble_eq_true rfl) (And.intro rfl (And.intro (Or.inr (Or.inl ⟨rfl, Or.inl rfl⟩)) ?_)))
    exact ⟨⟨_, rfl⟩, g, iC.rf, Or.inl rfl⟩
  · obtain ⟨q1, q2, q3, q4, q5, -⟩ := CN_ok c hc
    have kc : (u1.2.2.2.1 c).1 = 1 := ty1.k q1 q2
    refine kjZ_y rfl rfl 6 _ _ _ _ ty1 ?_
    refine (And.intro (Nat.le_of_ble_eq_true rfl) (And.intro (ty1.k (by decide) rfl) (And.intro (fun c1 => ?_) (fun c1 => ?_))))
    rotate_left
    · refine kjZ_y rfl rfl 2 _ _ _ _ ty1 ?_
      refine And.intro rfl (And.intro (Or.inr (Or.inl ⟨rfl, Or.inl rfl⟩)) ?_)
      exact ⟨⟨_, rfl⟩, g, iC.rf, Or.inl rfl⟩
    refine kjZ_y rfl rfl 2 _ _ _ _ ty1 ?_
    refine (And.intro (Nat.le_of_ble_eq_true rfl) (And.intro (Or.inl ⟨(Nat.le_of_ble_eq_true rfl), (by assumption)⟩) (And.intro (Nat.le_of_ble_eq_true rfl) (And.intro (Nat.le_of_ble_eq_true rfl) (kjY_mono ty1 (fun q_ u2 ty2 xu2 h_ => ?_) (kC_close (d := d) ty1 g hb hc))))))
    obtain ⟨rfl, g2, i2, n2, f2, -, q2'⟩ := h_
    intro _ _
    have kc2 : (u2.2.2.2.1 c).1 = 1 := ty2.k q1 q2
    have ko := ob_k ty2 q4
    refine kjZ_y rfl rfl 3 _ _ _ _ ty2 ?_
    refine (And.intro (by assumption) (And.intro (Nat.le_of_ble_eq_true rfl) (And.intro (Or.inl ⟨(Nat.le_of_ble_eq_true rfl), (by assumption)⟩) (And.intro (Nat.le_of_ble_eq_true rfl) (And.intro (Nat.le_of_ble_eq_true rfl) (kjY_mono ty2 (fun q_ u3 ty3 xu3 h_ => ?_) (k_empty ty2 (c + 3) ko)))))))
    obtain ⟨rfl, eu3⟩ := h_
    intro _ _
    obtain ⟨g3, e3, b3, o3⟩ := g2.em ty2 q4 eu3
    have i3 : iC opF u2 u3 := iC_2 ((opF_in.1 c hc).2 2 (by decide)).2 ((opF_in.1 c hc).2 3 (by decide)).2 eu3
    have kc3 : (u3.2.2.2.1 c).1 = 1 := ty3.k q1 q2
    refine kjZ_y rfl rfl 5 _ _ _ _ ty3 ?_
    refine (And.intro (by assumption) (And.intro (Or.inr ⟨rfl, Or.inr rfl⟩) (fun ty3' => And.intro rfl (And.intro (Or.inr (Or.inl ⟨rfl, Or.inr rfl⟩)) ?_))))
    have fin : ∀ z, z = (mjIu u3.1 c 0 (Int32.ofInt 1), u3.2) → KG B z nm ks ∧ iC opF u1 z ∧ (z = u1 ∨ ((¬ u1.1 0 17 = 0) ∧ ∃ c ∈ CNs, EMb (c + 1) z ∧ CQ [c] u1 z)) := by
      intro z ez
      obtain ⟨g4, o4⟩ := g3.pi2 ty3 q5 ez
      refine ⟨g4, i2.tr (i3.tr (iC_1 ((opF_in.1 c hc).1 0 (by decide)) ez)), Or.inr ⟨c1, c, hc, ⟨o4 _ q3 _ (o3 _ q3 (by omega) _ n2), ?_⟩, ?_⟩⟩
      rotate_left
      · have c3 : Ch true [(c + 3, 2), (c + 3, 3)] [] u2 u3 := Ch_ints (by rw [eu3]) (fun h x n => by
          rw [eu3]; show mjIu (mjIu u2.1 (c + 3) 2 0) (c + 3) 3 0 h x = _
          rw [mjIu_at, mjIu_at, if_neg (fun y => n (by rw [y.1, y.2]; simp)), if_neg (fun y => n (by rw [y.1, y.2]; simp))]) (fun p hp => by
          have f1 : ∀ p ∈ [(c + 3, 2), (c + 3, 3)], p.1 = c + 3 := by simp
          rw [f1 p hp, ko]; decide)
        have c4 : Ch false [(c, 0)] [] u3 z := by rw [ez]; exact Ch_i (by rw [kc3]; decide)
        have a3 : ∀ c ∈ CNs, ∀ p ∈ [(c + 3, 2), (c + 3, 3)], (∀ b ∈ payB, ¬ p.1 = b) ∧ ∀ c' ∈ CNs, (¬ p = (c', 3)) ∧ (¬ p = (c', 7)) ∧ (¬ c' ∈ [c] → (¬ p.1 = c' + 1) ∧ ¬ p = (c', 0)) := by decide +kernel
        have a4 : ∀ c ∈ CNs, ∀ p ∈ [(c, 0)], (∀ b ∈ payB, ¬ p.1 = b) ∧ ∀ c' ∈ CNs, (¬ p = (c', 3)) ∧ (¬ p = (c', 7)) ∧ (¬ c' ∈ [c] → (¬ p.1 = c' + 1) ∧ ¬ p = (c', 0)) := by decide +kernel
        exact (CQ.less q2').tr ((CQ.chX ty2 g2.1.1 c3 (a3 c hc) (fun p hp => by cases hp)).tr (CQ.chX ty3 g3.1.1 c4 (a4 c hc) (fun p hp => by cases hp)))
      rw [ez]; show mjIu u3.1 c 0 _ (c + 1) 3 = 0
      rw [mjIu_at, if_neg (fun y => absurd y.2 (by decide)), eu3]
      show mjIu (mjIu u2.1 (c + 3) 2 0) (c + 3) 3 0 (c + 1) 3 = 0
      rw [mjIu_at, mjIu_at, if_neg (fun y => by omega), if_neg (fun y => by omega)]
      exact f2
    exact ⟨⟨_, rfl⟩, fin _ rfl⟩
theorem kx_now (ty : kTY σ) : kjY kPP (kQQ Y) d 10 0 (mjL0 1 [.ref 0]) [] σ (fun r u => u = σ ∧ r = some (.long (σ.2.1 59 16))) := by
  refine kjZ_y rfl rfl 4 _ _ _ _ ty ?_
  refine (And.intro (ty.k (by decide) rfl) (And.intro (ty.k (by decide) rfl) (And.intro rfl (And.intro rfl ?_))))
  exact ⟨rfl, rfl⟩
theorem kx_isUp (ty : kTY σ) (hu : σ.1 0 17 = 0 ∨ σ.1 0 17 = 1) : kjY kPP (kQQ Y) d 18 0 (mjL0 1 [.ref 0]) [] σ (fun r u => u = σ ∧ r = some (.int (σ.1 0 17))) := by
  refine kjZ_y rfl rfl 3 _ _ _ _ ty ?_
  refine (And.intro (ty.k (by decide) rfl) (And.intro rfl (And.intro (Or.inr (Or.inl ⟨rfl, ?_⟩)) ?_)))
  · exact hu
  · exact ⟨rfl, rfl⟩
theorem kx_log (ty : kTY σ) {b : Nat} (hb : b ∈ [5, 7]) (h10 : σ.2.2.1 0 10 = some b) : kjY kPP (kQQ Y) d 15 0 (mjL0 1 [.ref 0]) [] σ (fun r u => u = σ ∧ r = some (.int (σ.1 b 2))) := by
  have kb := ob_k ty (J_ok b hb).1
  refine kjZ_y rfl rfl 4 _ _ _ _ ty ?_
  refine (And.intro (ty.k (by decide) rfl) (Exists.intro _ (And.intro h10 (And.intro (by assumption) (And.intro rfl (And.intro (Or.inl rfl) ?_))))))
  exact ⟨rfl, rfl⟩
theorem kx_fuse (ty : kTY σ) (g : KG B σ nm ks) (x : Int32) : kjY kPP (kQQ Y) d 11 0 (mjL0 2 [.ref 0, .int x]) [] σ (fun r u => r = none ∧ KG B u nm ks ∧ ∃ v, u = (mjIu σ.1 0 16 v, σ.2)) := by
  refine kjZ_y rfl rfl 3 _ _ _ _ ty ?_
  refine And.intro (fun c => ?_) (fun c => ?_)
  · refine kjZ_y rfl rfl 3 _ _ _ _ ty ?_
    refine (And.intro (ty.k (by decide) rfl) (And.intro (Or.inl rfl) (fun ty' => And.intro rfl (And.intro rfl ?_))))
    exact ⟨rfl, g.pi ty (by decide +kernel), _, rfl⟩
  · refine kjZ_y rfl rfl 4 _ _ _ _ ty ?_
    refine (And.intro (ty.k (by decide) rfl) (And.intro (Or.inl rfl) (fun ty' => And.intro rfl (And.intro rfl ?_))))
    exact ⟨rfl, g.pi ty (by decide +kernel), _, rfl⟩
theorem kx_total (ty : kTY σ) (x : Int32) : kjY kPP (kQQ Y) d 19 0 (mjL0 2 [.ref 0, .int x]) [] σ (fun r u => u = σ ∧ ∃ y, r = some (.int y)) := by
  have no : kjY kPP (kQQ Y) d 19 5 [some (.ref 0), some (.int x)] [] σ (fun r u => u = σ ∧ ∃ y, r = some (.int y)) := by
    refine kjZ_y rfl rfl 2 _ _ _ _ ty ?_
    refine And.intro rfl (And.intro (Or.inl rfl) ?_)
    exact ⟨rfl, _, rfl⟩
  refine kjZ_y rfl rfl 2 _ _ _ _ ty ?_
  refine And.intro (fun c => ?_) (fun c => ?_)
  · exact no
  refine kjZ_y rfl rfl 3 _ _ _ _ ty ?_
  refine And.intro (fun c2 => ?_) (fun c2 => ?_)
  rotate_left
  · exact no
  refine kjZ_y rfl rfl 3 _ _ _ _ ty ?_
  refine (And.intro (ty.k (by decide) rfl) (And.intro (fun c3 => ?_) (fun c3 => ?_)))
  rotate_left
  · refine kjZ_y rfl rfl 2 _ _ _ _ ty ?_
    refine And.intro rfl (And.intro (Or.inl rfl) ?_)
    exact ⟨rfl, _, rfl⟩
  refine kjZ_y rfl rfl 2 _ _ _ _ ty ?_
  refine And.intro (fun c4 => ?_) (fun c4 => ?_)
  rotate_left
  · refine kjZ_y rfl rfl 5 _ _ _ _ ty ?_
    refine (And.intro (ty.k (by decide) rfl) (And.intro (ty.k (by decide) rfl) (And.intro rfl (And.intro (Or.inl rfl) ?_))))
    exact ⟨rfl, _, rfl⟩
  refine kjZ_y rfl rfl 3 _ _ _ _ ty ?_
  refine And.intro (fun c5 => ?_) (fun c5 => ?_)
  · refine kjZ_y rfl rfl 4 _ _ _ _ ty ?_
    refine (And.intro (ty.k (by decide) rfl) (And.intro (ty.k (by decide) rfl) (And.intro rfl (And.intro (Or.inl rfl) ?_))))
    exact ⟨rfl, _, rfl⟩
  · refine kjZ_y rfl rfl 5 _ _ _ _ ty ?_
    refine (And.intro (ty.k (by decide) rfl) (And.intro (ty.k (by decide) rfl) (And.intro rfl (And.intro (Or.inl rfl) ?_))))
    exact ⟨rfl, _, rfl⟩
end KOPEN
