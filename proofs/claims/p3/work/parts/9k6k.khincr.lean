/-! HINCRBY; what a field holds. -/
section KHINCR
variable {Y : Nat → MethodName × ByteArray} {d : Nat} {σ0 σ u : kS} {B ws nm nm' : List (List Int32)} {ks : List KC}
/-- the word that a field holds -/
def fvE (f : List Int32) (es : List AE) : Option (List Int32) := if skT f es = true then (es[skI f es]?).map (fun z => z.2.1) else none
/-- the number of the word, or none -/
def fvP (σ : kS) (nm : List (List Int32)) (o : Option (List Int32)) : kK := fun r u => u = σ ∧ ((o = none ∧ r = some (.int (-1))) ∨ ∃ t k, o = some t ∧ r = some (.int (nI k)) ∧ nm[k]? = some t)
theorem kx_valueOf0 (ty : kTY σ) (x2 : Int32) : kjY kPP (kQQ Y) (d + 3) 212 0 (mjL0 4 [.ref 71, .null, .int x2]) [] σ (fvP σ nm none) := by
  refine kjZ_y rfl rfl 5 _ _ _ _ ty ?_
  refine (And.intro (ty.k (by decide) rfl) (And.intro (Nat.le_of_ble_eq_true rfl) (And.intro (Or.inl ⟨(Nat.le_of_ble_eq_true rfl), (ty.k (by decide) rfl)⟩) (And.intro (Nat.le_of_ble_eq_true rfl) (And.intro (Nat.le_of_ble_eq_true rfl) (kjY_mono ty (fun q_ u1 ty1 xu1 h_ => ?_) (kx_placeOf0 ty _)))))))
  obtain ⟨rfl, rfl⟩ := h_
  intro _ _
  refine kjZ_y rfl rfl 5 _ _ _ _ ty1 ?_
  refine (And.intro (Nat.le_of_ble_eq_true rfl) ?_)
  refine kjZ_y rfl rfl 1 _ _ _ _ ty1 ?_
  refine And.intro rfl (And.intro (Or.inl rfl) ?_)
  exact ⟨rfl, Or.inl ⟨rfl, rfl⟩⟩
theorem kx_valueOf (ty : kTY σ) {P Q : List KC} {x : KC} (w : KWd σ0 B σ ws nm (P ++ x :: Q)) (hsort : x.2.2.2.2.2.2.1 = 2) (hSP : SP x.2.2.2.2.2.2.2.2.2.2) {k : Nat} {f : List Int32} (hk : nm[k]? = some f) (x2 : Int32) (e2 : x2 = nI k) : kjY kPP (kQQ Y) (d + 3) 212 0 (mjL0 4 [.ref 71, .ref x.1, .int x2]) [] σ (fvP σ nm (fvE f x.2.2.2.2.2.2.2.2.2.2)) := by
  obtain ⟨fr, vs, e0, q0, q1, hR, hV, a1, ⟨b3, b4⟩, ⟨hid0, hid1⟩, hd, s6, hn6, s4⟩ := w.h2 hsort
  have kv : (σ.2.2.2.1 x.1).1 = 11 := by rw [hd]
  have hsl9 := skR_lt (v := f) (es := x.2.2.2.2.2.2.2.2.2.2) (by omega)
  refine kjZ_y rfl rfl 5 _ _ _ _ ty ?_
  refine (And.intro (ty.k (by decide) rfl) (And.intro (Nat.le_of_ble_eq_true rfl) (And.intro (Or.inl ⟨(Nat.le_of_ble_eq_true rfl), (ty.k (by decide) rfl)⟩) (And.intro (Nat.le_of_ble_eq_true rfl) (And.intro (Nat.le_of_ble_eq_true rfl) (kjY_mono ty (fun q_ u1 ty1 xu1 h_ => ?_) (kx_plM ty w (Or.inl hsort) hSP hk _ e2)))))))
  obtain ⟨rfl, rfl⟩ := h_
  intro _ _
  refine kjZ_y rfl rfl 3 _ _ _ _ ty1 ?_
  refine (And.intro (Nat.le_of_ble_eq_true rfl) ?_)
  refine kjZ_y rfl rfl 2 _ _ _ _ ty1 ?_
  refine And.intro (fun c => ?_) (fun c => ?_)
  · have hyes : skT f x.2.2.2.2.2.2.2.2.2.2 = true := Decidable.byContradiction fun z => Int32.not_lt.mpr c (hsl9.1.mpr z)
    obtain ⟨z, hz1, hz2, hz3⟩ := skT_at hyes
    have e4 : skR f x.2.2.2.2.2.2.2.2.2.2 = nI (skI f x.2.2.2.2.2.2.2.2.2.2) := by unfold skR; rw [if_pos hyes]
    refine kjZ_y rfl rfl 3 _ _ _ _ ty1 ?_
    refine (And.intro (Nat.le_of_ble_eq_true rfl) (And.intro (Or.inl ⟨(Nat.le_of_ble_eq_true rfl), (by assumption)⟩) (And.intro (Nat.le_of_ble_eq_true rfl) (And.intro (Nat.le_of_ble_eq_true rfl) (kjY_mono ty1 (fun q_ u4 ty4 xu4 h_ => ?_) (k_voth ty1 hR a1 _))))))
    obtain ⟨rfl, yo, rfl, qo⟩ := h_
    intro _ _
    obtain ⟨ko, g1, g2⟩ := hid1.2 _ z.2.1 (by rw [List.getElem?_map, hz1]; rfl)
    have eyo : yo = nI ko := by rw [qo _ q1 _ e4 hz3 (show ¬ (2 : Nat) = 0 by decide) rfl g1]; exact i64_32 ko
    refine kjZ_y rfl rfl 1 _ _ _ _ ty4 ?_
    refine And.intro rfl (And.intro (Or.inl rfl) ?_)
    refine ⟨rfl, Or.inr ⟨z.2.1, ko, ?_, by rw [eyo], g2⟩⟩
    unfold fvE; rw [if_pos hyes, hz1]; rfl
  · have hno := hsl9.1.mp (Int32.not_le.mp c)
    refine kjZ_y rfl rfl 2 _ _ _ _ ty1 ?_
    refine kjZ_y rfl rfl 1 _ _ _ _ ty1 ?_
    refine And.intro rfl (And.intro (Or.inl rfl) ?_)
    exact ⟨rfl, Or.inl ⟨by unfold fvE; rw [if_neg hno], rfl⟩⟩
theorem kx_isInteger (ty : kTY σ) (hw : WRD σ nm) {k : Nat} {t : List Int32} (hk : nm[k]? = some t) (x1 : Int32) (e1 : x1 = nI k) : kjY kPP (kQQ Y) (d + 1) 83 0 (mjL0 3 [.ref 48, .int x1, .ref 53]) [] σ (paK σ (intF t)) := by
  obtain ⟨rb, NB, rs, NS, rc, ⟨b1, b2, b3, b3'⟩, ⟨s1, s2, s3, s4, s5, s5'⟩, a1, a2, a3, a4, a5, a6, a7, a8⟩ := hw
  have hil : k < nm.length := (List.getElem?_eq_some_iff.mp hk).1
  have v1 : vp_in x1 NS := by rw [e1]; exact vp_in_nI (by omega) (by omega)
  have ei : x1 + Int32.ofInt 1 = nI (k + 1) := by rw [e1]; exact nI_1 k
  have v2 : vp_in (x1 + Int32.ofInt 1) NS := by rw [ei]; exact vp_in_nI (by omega) (by omega)
  have c1 : x1.toNatClampNeg = k := by rw [e1]; exact nI_clamp (by omega)
  have c2 : (x1 + Int32.ofInt 1).toNatClampNeg = k + 1 := by rw [ei]; exact nI_clamp (by omega)
  have q1 := a3 k (by omega)
  have q3 := sl_take_s hk
  have q4 := sl_take_le nm (k + 1)
  have es : σ.1 rs x1.toNatClampNeg = nI (sl (nm.take k)) := by rw [c1, q1]
  have ed : σ.1 rs (x1 + Int32.ofInt 1).toNatClampNeg - σ.1 rs x1.toNatClampNeg = nI t.length := by
    rw [c1, c2, q1, a3 (k + 1) (by omega), q3, pk_sub (by omega)]; congr 1; omega
  have e5 := a5 k t hk
  refine kjZ_y rfl rfl 2 _ _ _ _ ty ?_
  refine And.intro (fun c => ?_) (fun c => ?_)
  · exact absurd (show x1 < 0 from c) (by rw [e1]; exact nI_n0 (by omega))
  refine kjZ_y rfl rfl 4 _ _ _ _ ty ?_
  refine (And.intro (ty.k (by decide) rfl) (And.intro (fun c3 => ?_) (fun c3 => ?_)))
  · refine absurd (show σ.1 48 4 ≤ x1 from c3) ?_
    rw [a2, e1, nle (by omega) (by omega)]; omega
  refine kjZ_y rfl rfl 19 _ _ _ _ ty ?_
  refine (And.intro (ty.k (by decide) rfl) (Exists.intro _ (And.intro b1 (And.intro (ty.k (by decide) rfl) (Exists.intro _ (And.intro s1 (Or.inl (And.intro (kdk s2) (And.intro (kdv s2 v1) (And.intro (ty.k (by decide) rfl) (Exists.intro _ (And.intro s1 (Or.inl (And.intro (kdk s2) (And.intro (kdv s2 v2) (And.intro (ty.k (by decide) rfl) (Exists.intro _ (And.intro s1 (Or.inl (And.intro (kdk s2) (And.intro (kdv s2 v1) (And.intro (Nat.le_of_ble_eq_true rfl) (And.intro (Or.inl ⟨(Nat.le_of_ble_eq_true rfl), (ty.k (by decide) rfl)⟩) (And.intro (Nat.le_of_ble_eq_true rfl) (And.intro (Nat.le_of_ble_eq_true rfl) (kjY_mono ty (fun q_ u1 ty1 xu1 h_ => ?_) (k_parse ty b2 (by omega) (a := sl (nm.take k)) (n := t.length) (by omega) _ _ es ed)))))))))))))))))))))))))))
  have q := h_
  intro _ _
  rw [e5] at q
  cases hi : intF t with
  | none =>
    rw [hi] at q
    obtain ⟨rfl, rfl⟩ : q_ = some (.int 0) ∧ u1 = σ := q
    refine kjZ_y rfl rfl 1 _ _ _ _ ty1 ?_
    refine And.intro (fun c4 => ?_) (fun c4 => ?_)
    rotate_left
    · exact absurd rfl c4
    refine kjZ_y rfl rfl 2 _ _ _ _ ty1 ?_
    refine And.intro rfl (And.intro (Or.inr (Or.inl ⟨rfl, Or.inl rfl⟩)) ?_)
    exact ⟨rfl, rfl⟩
  | some m =>
    rw [hi] at q
    obtain ⟨rfl, eu⟩ : q_ = some (.int 1) ∧ u1 = (σ.1, mjLu σ.2.1 53 9 m, σ.2.2) := q
    refine kjZ_y rfl rfl 1 _ _ _ _ ty1 ?_
    refine And.intro (fun c4 => ?_) (fun c4 => ?_)
    · exact absurd (show (1 : Int32) = 0 from c4) (by decide)
    refine kjZ_y rfl rfl 3 _ _ _ _ ty1 ?_
    refine And.intro rfl (And.intro (Or.inr (Or.inl ⟨rfl, Or.inr rfl⟩)) ?_)
    exact ⟨rfl, eu⟩
end KHINCR
