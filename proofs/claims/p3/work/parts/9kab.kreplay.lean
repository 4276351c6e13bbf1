/-! A logged request is performed again: nothing is noted. -/
/-- what performing leaves, in a replay -/
def pfR (B : List (List Int32)) (σ : kS) (ws nmm : List (List Int32)) (ks : List KC) (e : Eff) : kK := fun r u => r = none ∧ ∃ nm' ks', PRE nmm nm' ∧ KO B u ws nm' ks' ∧ RSD ks' ∧ skA ks' = efA (skA ks) e ∧ Ch true kcF kcO σ u
section KREPLAY
variable {Y : Nat → MethodName × ByteArray} {d : Nat} {σ u : kS} {B ws nmm nmm' : List (List Int32)} {ks ks' : List KC} {j : Nat}
theorem kx_perf52R (ty : kTY σ) (g : KO B σ ws nmm ks) (hR : ¬ σ.1 59 17 = 0) (v1 v2 : Option Value) :
    kjY kPP (kQQ Y) (d + 10) 27 52 [some (.ref 0), v1, v2] [] σ (fun r u => r = none ∧ KO B u ws nmm ks ∧ Ch true kcF kcO σ u) := by
  refine kjZ_y rfl rfl 3 _ _ _ _ ty ?_
  refine (And.intro (ty.k (by decide) rfl) (And.intro (Nat.le_of_ble_eq_true rfl) (And.intro (Or.inl ⟨(Nat.le_of_ble_eq_true rfl), (ty.k (by decide) rfl)⟩) (And.intro (Nat.le_of_ble_eq_true rfl) (And.intro (Nat.le_of_ble_eq_true rfl) (kjY_mono ty (fun q_ z1 t1 xx1 h_ => ?_) (kx_tellRefusal (d := d + 2) ty (g.in_ ty))))))))
  have q1 := h_
  intro _ _
  have bk : Ch true kcF kcO σ z1 := q1.2.1.1.2
  obtain ⟨rfl, g1, a1, b1⟩ := g.w ty q1
  obtain ⟨f0, f17, f16⟩ := OF_fl ty b1
  refine kjZ_y rfl rfl 4 _ _ _ _ t1 ?_
  refine (And.intro (t1.k (by decide) rfl) (And.intro (t1.k (by decide) rfl) (And.intro (fun c => ?_) (fun c => ?_))))
  · refine kjZ_y rfl rfl 1 _ _ _ _ t1 ?_
    refine And.intro rfl (And.intro rfl ?_)
    exact ⟨rfl, g1, bk⟩
  · refine kjZ_y rfl rfl 4 _ _ _ _ t1 ?_
    refine (And.intro (t1.k (by decide) rfl) (And.intro (t1.k (by decide) rfl) (And.intro (fun c2 => ?_) (fun c2 => ?_))))
    · refine kjZ_y rfl rfl 1 _ _ _ _ t1 ?_
      refine And.intro rfl (And.intro rfl ?_)
      exact ⟨rfl, g1, bk⟩
    · exact absurd (Decidable.of_not_not c2) (by show ¬ z1.1 59 17 = 0; rw [f17]; exact hR)
theorem pf_ofR (ty : kTY σ) (_g : KO B σ ws nmm ks) (hR : ¬ σ.1 59 17 = 0) {e : Eff} {z : kS} (tz : kTY z) {nm' : List (List Int32)} (hp : PRE nmm nm') (gz : KO B z ws nm' ks') (rz : RSD ks') (eA : skA ks' = efA (skA ks) e) (cz : Ch true kcF kcO σ z) (v1 v2 : Option Value) :
    kjY kPP (kQQ Y) (d + 10) 27 52 [some (.ref 0), v1, v2] [] z (pfR B σ ws nmm ks e) := by
  obtain ⟨f0, f17, f16⟩ := OF_fl ty (cz.up (fun z => z) OFf_k OFo_k)
  refine kjY_mono tz (fun r u _ _ q => ?_) (kx_perf52R (d := d) tz gz (by rw [f17]; exact hR) v1 v2)
  obtain ⟨q1, q2, q3⟩ := q
  exact ⟨q1, nm', ks', hp, q2, rz, eA, Ch.tr ty (fun p hp => (kc_als.2 p hp).1) cz q3⟩
theorem kx_performR (ty : kTY σ) (g : KO B σ ws nmm ks) (hj : CMD σ j) (hJ : JP B (σ.1 59 17) (σ.2.1 59 16) ws ks j) (hR : ¬ σ.1 59 17 = 0) :
    kjY kPP (kQQ Y) (d + 11) 27 0 (mjL0 3 [.ref 0, .null]) [] σ (pfR B σ ws nmm ks (rnC (σ.1 59 17) (σ.2.1 59 16) ks j ws)) := by
  refine kjZ_y rfl rfl 4 _ _ _ _ ty ?_
  refine (And.intro (ty.k (by decide) rfl) (And.intro (ty.k (by decide) rfl) (And.intro (Or.inr ⟨rfl, Or.inl rfl⟩) (fun ty' => ?_))))
  show kjY kPP (kQQ Y) (d + 11) 27 4 [some (.ref 0), some .null, none] [] (mjIu σ.1 59 18 (Int32.ofInt 0), σ.2) _
  have w1 : KWd σ B (mjIu σ.1 59 18 (Int32.ofInt 0), σ.2) ws nmm ks := (g.in_ ty).pi ty (by decide)
  have go1 : ∀ z, kTY z → z = (mjIu σ.1 59 18 (Int32.ofInt 0), σ.2) → kjY kPP (kQQ Y) (d + 11) 27 4 [some (.ref 0), some .null, none] [] z (pfR B σ ws nmm ks (rnC (σ.1 59 17) (σ.2.1 59 16) ks j ws)) := by
    intro z tz ez
    have w2 : KWd σ B (mjIu z.1 53 13 (Int32.ofInt 0), z.2) ws nmm ks := by
      rw [← ez] at w1; exact w1.pi tz (by decide)
    refine kjZ_y rfl rfl 4 _ _ _ _ tz ?_
    refine (And.intro (tz.k (by decide) rfl) (And.intro (tz.k (by decide) rfl) (And.intro (Or.inl rfl) (fun tz' => ?_))))
    show kjY kPP (kQQ Y) (d + 11) 27 8 [some (.ref 0), some .null, none] [] (mjIu z.1 53 13 (Int32.ofInt 0), z.2) _
    have go2 : ∀ y, kTY y → y = (mjIu z.1 53 13 (Int32.ofInt 0), z.2) → kjY kPP (kQQ Y) (d + 11) 27 8 [some (.ref 0), some .null, none] [] y (pfR B σ ws nmm ks (rnC (σ.1 59 17) (σ.2.1 59 16) ks j ws)) := by
      intro y t ey
      rw [← ey] at w2
      obtain ⟨gy, -⟩ := g.st ty w2
      have cy : Ch true kcF kcO σ y := w2.1.2
      have hI : ∀ h x, ¬ (h = 59 ∧ x = 18) → ¬ (h = 53 ∧ x = 13) → y.1 h x = σ.1 h x := fun h x n1 n2 => by
        rw [ey]; show mjIu z.1 53 13 _ h x = _
        rw [mjIu_at, if_neg n2, ez]; show mjIu σ.1 59 18 _ h x = _
        rw [mjIu_at, if_neg n1]
      have h2 : y.2 = σ.2 := by rw [ey, ez]
      have hL : y.2.1 = σ.2.1 := congrArg (fun t => t.1) h2
      have hF : y.2.2.1 = σ.2.2.1 := congrArg (fun t => t.2.1) h2
      have h13 : y.1 53 13 = 0 := by
        rw [ey]; show mjIu z.1 53 13 _ 53 13 = _; rw [mjIu_p]; rfl
      have h18 : y.1 59 18 = 0 := by
        rw [ey]; show mjIu z.1 53 13 (Int32.ofInt 0) 59 18 = _
        rw [mjIu_at, if_neg (by decide), ez]; show mjIu σ.1 59 18 (Int32.ofInt 0) 59 18 = _; rw [mjIu_p]; rfl
      have hjy : CMD y j := ⟨by rw [hF]; exact hj.1, hj.2⟩
      have h17 : y.1 59 17 = σ.1 59 17 := hI 59 17 (by decide) (by decide)
      have h16 : y.2.1 59 16 = σ.2.1 59 16 := by rw [hL]
      have kj : kCm (1000000 + j) := ⟨j, hj.2, rfl⟩
      have jc : JC B y ws nmm ks j := JP.jc (by rw [h17, h16]; exact hJ) (gy.in_ t) hjy h13 h18
      have eR : rnC (y.1 59 17) (y.2.1 59 16) ks j ws = rnC (σ.1 59 17) (σ.2.1 59 16) ks j ws := by rw [h17, h16]
      have ho : kOf 1003 (1000000 + j) (.int (kCmd j).2.2.1) := Or.inl ⟨j, hj.2, rfl, Or.inr (Or.inr (Or.inl ⟨rfl, rfl⟩))⟩
      refine kjZ_y rfl rfl 9 _ _ _ _ t ?_
      refine (And.intro (t.k (by decide) rfl) (And.intro (t.k (by decide) rfl) (Exists.intro _ (And.intro hjy.1 (And.intro (Nat.le_of_ble_eq_true rfl) (Exists.intro _ (And.intro ho ?_)))))))
      show kjY kPP (kQQ Y) (d + 11) 27 (kSg 1 (kCmd j).2.2.1) [some (.ref 0), some .null, some (.ref (1000000 + j))] [] y _
      have fin : ∀ r z, kTY z → cmP B y ws nmm ks j (rnC (y.1 59 17) (y.2.1 59 16) ks j ws) r z → kjY kPP (kQQ Y) (d + 11) 27 52 [some (.ref 0), some .null, some (.ref (1000000 + j))] [] z (pfR B σ ws nmm ks (rnC (σ.1 59 17) (σ.2.1 59 16) ks j ws)) := by
        intro r z tz q
        obtain ⟨-, nm', ks', p1, wz, rz, sz, eA, hN⟩ := q
        rw [eR] at eA
        obtain ⟨gz, -⟩ := gy.st t wz
        have cz : Ch true kcF kcO y z := wz.1.2
        exact pf_ofR (d := d + 1) ty g hR tz p1 gz rz eA (Ch.tr ty (fun p hp => (kc_als.2 p hp).1) cy cz) _ _
      rcases kSg_1 j hj.2 with ⟨e, m⟩ | ⟨e, m⟩ | ⟨e, m⟩ | ⟨e, m⟩ | ⟨e, m⟩ | ⟨e, m⟩ | ⟨e, m⟩
      · rw [e]
        refine kjZ_y rfl rfl 4 _ _ _ _ t ?_
        refine (And.intro (t.k (by decide) rfl) (And.intro (Nat.le_of_ble_eq_true rfl) (And.intro (Or.inl ⟨(Nat.le_of_ble_eq_true rfl), (t.k (by decide) rfl)⟩) (And.intro (Nat.le_of_ble_eq_true rfl) (And.intro (Nat.le_of_ble_eq_true rfl) (kjY_mono t (fun q_ z1 t1 xx1 h_ => ?_) (kg_0 (d := d) t jc m)))))))
        have q := h_
        intro _ _
        obtain ⟨rfl, -⟩ := id q
        refine kjZ_y rfl rfl 1 _ _ _ _ t1 ?_
        exact fin none z1 t1 q
      · rw [e]
        refine kjZ_y rfl rfl 4 _ _ _ _ t ?_
        refine (And.intro (t.k (by decide) rfl) (And.intro (Nat.le_of_ble_eq_true rfl) (And.intro (Or.inl ⟨(Nat.le_of_ble_eq_true rfl), (t.k (by decide) rfl)⟩) (And.intro (Nat.le_of_ble_eq_true rfl) (And.intro (Nat.le_of_ble_eq_true rfl) (kjY_mono t (fun q_ z1 t1 xx1 h_ => ?_) (kg_1 (d := d) t jc m)))))))
        have q := h_
        intro _ _
        obtain ⟨rfl, -⟩ := id q
        refine kjZ_y rfl rfl 1 _ _ _ _ t1 ?_
        exact fin none z1 t1 q
      · rw [e]
        refine kjZ_y rfl rfl 4 _ _ _ _ t ?_
        refine (And.intro (t.k (by decide) rfl) (And.intro (Nat.le_of_ble_eq_true rfl) (And.intro (Or.inl ⟨(Nat.le_of_ble_eq_true rfl), (t.k (by decide) rfl)⟩) (And.intro (Nat.le_of_ble_eq_true rfl) (And.intro (Nat.le_of_ble_eq_true rfl) (kjY_mono t (fun q_ z1 t1 xx1 h_ => ?_) (kg_2 (d := d) t jc m)))))))
        have q := h_
        intro _ _
        obtain ⟨rfl, -⟩ := id q
        refine kjZ_y rfl rfl 1 _ _ _ _ t1 ?_
        exact fin none z1 t1 q
      · rw [e]
        refine kjZ_y rfl rfl 4 _ _ _ _ t ?_
        refine (And.intro (t.k (by decide) rfl) (And.intro (Nat.le_of_ble_eq_true rfl) (And.intro (Or.inl ⟨(Nat.le_of_ble_eq_true rfl), (t.k (by decide) rfl)⟩) (And.intro (Nat.le_of_ble_eq_true rfl) (And.intro (Nat.le_of_ble_eq_true rfl) (kjY_mono t (fun q_ z1 t1 xx1 h_ => ?_) (kg_3 (d := d) t jc m)))))))
        have q := h_
        intro _ _
        obtain ⟨rfl, -⟩ := id q
        refine kjZ_y rfl rfl 1 _ _ _ _ t1 ?_
        exact fin none z1 t1 q
      · rw [e]
        refine kjZ_y rfl rfl 4 _ _ _ _ t ?_
        refine (And.intro (t.k (by decide) rfl) (And.intro (Nat.le_of_ble_eq_true rfl) (And.intro (Or.inl ⟨(Nat.le_of_ble_eq_true rfl), (t.k (by decide) rfl)⟩) (And.intro (Nat.le_of_ble_eq_true rfl) (And.intro (Nat.le_of_ble_eq_true rfl) (kjY_mono t (fun q_ z1 t1 xx1 h_ => ?_) (kg_4 (d := d) t jc m)))))))
        have q := h_
        intro _ _
        obtain ⟨rfl, -⟩ := id q
        refine kjZ_y rfl rfl 1 _ _ _ _ t1 ?_
        exact fin none z1 t1 q
      · rw [e]
        refine kjZ_y rfl rfl 4 _ _ _ _ t ?_
        refine (And.intro (t.k (by decide) rfl) (And.intro (Nat.le_of_ble_eq_true rfl) (And.intro (Or.inl ⟨(Nat.le_of_ble_eq_true rfl), (t.k (by decide) rfl)⟩) (And.intro (Nat.le_of_ble_eq_true rfl) (And.intro (Nat.le_of_ble_eq_true rfl) (kjY_mono t (fun q_ z1 t1 xx1 h_ => ?_) (kg_5 (d := d) t jc m)))))))
        have q := h_
        intro _ _
        obtain ⟨rfl, -⟩ := id q
        refine kjZ_y rfl rfl 1 _ _ _ _ t1 ?_
        exact fin none z1 t1 q
      · rw [e, rn_oth m]
        refine kjZ_y rfl rfl 4 _ _ _ _ t ?_
        refine (And.intro (Nat.le_of_ble_eq_true rfl) (And.intro (Or.inl ⟨(Nat.le_of_ble_eq_true rfl), (t.k (by decide) rfl)⟩) (And.intro (Nat.le_of_ble_eq_true rfl) (And.intro (Nat.le_of_ble_eq_true rfl) (kjY_mono t (fun q_ z1 t1 xx1 h_ => ?_) (kx_runOther00 (d := d + 10) t j hj.2))))))
        obtain ⟨rfl, rfl⟩ := h_
        intro _ _
        exact pf_ofR (d := d + 1) ty g hR t1 PRE.rf gy hJ.1 rfl cy _ _
    exact go2 _ tz' rfl
  exact go1 _ ty' rfl
end KREPLAY
