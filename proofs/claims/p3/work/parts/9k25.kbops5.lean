/-! Bytes: the first go; one is read; four are written. -/
section KBO5
variable {Y : Nat → MethodName × ByteArray} {d : Nat} {σ : kS}
/-- the first of its bytes go -/
theorem k_drop (ty : kTY σ) (ow : OWN σ) (po : POT σ) {b : Nat} (hb : b ∈ OWb) {r N : Nat} {l : List Int32} (h : BR σ b r N l) {k : Nat} (hk : k ≤ 100000000) (x : Int32) (ex : x = nI k) :
    kjY kPP (kQQ Y) (d + 1) 45 0 (mjL0 3 [.ref b, .int x]) [] σ (fun v u => v = none ∧ Wi b r σ u ∧ Ch false [(b, 2)] [(b, 1)] σ u ∧ OWN u ∧ POT u ∧ BR u b r N (l.drop k)) := by
  have kb := ob_k ty hb
  have hbr := br_ne ty hb h
  have hN := h.2.2.1.2
  have hlN := h.2.2.2.2.2.1
  have hs := h.2.2.2.2.1
  refine kjZ_y rfl rfl 2 _ _ _ _ ty ?_
  refine And.intro (fun c => ?_) (fun c => ?_)
  rotate_left
  · refine kjZ_y rfl rfl 1 _ _ _ _ ty ?_
    refine And.intro rfl (And.intro rfl ?_)
    have k0 : k = 0 := by
      have c1 : ¬ 0 < x := c
      rw [ex] at c1
      by_cases z : k = 0
      · exact z
      · exact absurd (nI_lt (a := 0) (b := k) (by omega) (by omega)) c1
    rw [k0]
    exact ⟨rfl, Wi.rf, Ch.rf, ow, po, h⟩
  have ey : (if σ.1 b 2 - x < Int32.ofInt 0 then Int32.ofInt 0 else σ.1 b 2 - x) = nI (l.length - k) := by
    rw [hs, ex]
    by_cases z : k ≤ l.length
    · rw [pk_sub z, if_neg (show ¬ nI (l.length - k) < Int32.ofInt 0 from nI_n0 (by omega))]
    · have z2 : nI l.length - nI k < 0 := by
        refine Int32.lt_iff_toInt_lt.mpr ?_
        rw [nI_sub_toInt (by omega) (by omega)]; show _ < (0 : Int); omega
      rw [if_pos (show nI l.length - nI k < Int32.ofInt 0 from z2), show l.length - k = 0 by omega]; rfl
  refine kjZ_y rfl rfl 6 _ _ _ _ ty ?_
  refine (And.intro (by assumption) (And.intro (Nat.le_of_ble_eq_true rfl) (And.intro (Nat.le_of_ble_eq_true rfl) (And.intro (Nat.le_of_ble_eq_true rfl) (kjY_mono ty (fun q_ u1 ty1 xu1 h_ => ?_) (k_max ty _ _))))))
  obtain ⟨rfl, rfl⟩ := h_
  intro _ _
  have es : u1.1 b 2 - (if u1.1 b 2 - x < Int32.ofInt 0 then Int32.ofInt 0 else u1.1 b 2 - x) = nI (l.length - (l.length - k)) := by
    rw [ey, hs, pk_sub (by omega)]
  have hl2 : (l.drop k).length = l.length - k := List.length_drop
  refine kjZ_y rfl rfl 15 _ _ _ _ ty1 ?_
  refine (And.intro (Nat.le_of_ble_eq_true rfl) (And.intro (by assumption) (Exists.intro _ (And.intro h.1 (And.intro (by assumption) (And.intro (by assumption) (Exists.intro _ (And.intro h.1 (Exists.intro (l.length - (l.length - k)) (Exists.intro 0 (Exists.intro (l.length - k) (And.intro ⟨es, rfl, ey⟩ (And.intro ⟨rfl, by rw [h.2.1]; show _ + _ ≤ N; omega, by rw [h.2.1]; show _ + _ ≤ N; omega⟩ (And.intro ⟨(Nat.le_of_ble_eq_true rfl), (Nat.le_of_ble_eq_true rfl)⟩ (Or.inl (And.intro (Or.inr (kdk h.2.1)) (fun ty1' => (And.intro (by assumption) (And.intro (Or.inl rfl) (fun ty1'' => ?_))))))))))))))))))))
  have go : ∀ u y, kTY u → Wi b r u1 u → BR u b r N (l.drop k) → kjY kPP (kQQ Y) (d + 1) 45 24 [some (.ref b), some (.int x), some (.int y)] [] u (fun v u => v = none ∧ Wi b r u1 u ∧ Ch false [(b, 2)] [(b, 1)] u1 u ∧ OWN u ∧ POT u ∧ BR u b r N (l.drop k)) := by
    intro u y tu wu bu
    refine kjZ_y rfl rfl 1 _ _ _ _ tu ?_
    refine And.intro rfl (And.intro rfl ?_)
    have q := sz_fin ty1 ow po hb h wu bu (by omega)
    exact ⟨rfl, wu, q.1, q.2.1, q.2.2, bu⟩
  have eI : ∀ y0 h y, mjIu (kUp u1.1 r (va_cpy (u1.1 r) (u1.1 r) (l.length - (l.length - k)) 0 (l.length - k))) b 2 y0 h y = if h = b ∧ y = 2 then y0 else if h = r then va_cpy (u1.1 r) (u1.1 r) (l.length - (l.length - k)) 0 (l.length - k) y else u1.1 h y := by
    intro y0 h y
    rw [mjIu_at]
    by_cases z : h = b ∧ y = 2
    · rw [if_pos z, if_pos z]
    · rw [if_neg z, if_neg z]
      by_cases z2 : h = r
      · rw [if_pos z2, z2, kUp_s]
      · rw [if_neg z2, kUp_n z2]
  have wu : ∀ y0, Wi b r u1 (mjIu (kUp u1.1 r (va_cpy (u1.1 r) (u1.1 r) (l.length - (l.length - k)) 0 (l.length - k))) b 2 y0, u1.2) := fun y0 => ⟨rfl, fun h y p1 p2 => (eI y0 h y).trans (by rw [if_neg p2, if_neg p1])⟩
  refine go _ _ ty1'' (wu _) ?_
  obtain ⟨h1, h2, h3, h4, h5, h6, h7⟩ := h
  refine ⟨h1, h2, h3, (eI _ b 0).trans ?_, (eI _ b 2).trans ?_, by omega, ?_⟩
  · rw [if_neg (fun z => absurd z.2 (by decide)), if_neg hbr]; exact h4
  · rw [if_pos ⟨rfl, rfl⟩, hl2]; exact ey
  · rw [hl2]
    by_cases z : k ≤ l.length
    · rw [wd_drop h7 z]
      refine wd_congr fun j hj => (eI _ r _).trans ?_
      rw [if_neg (fun z => hbr z.1.symm), if_pos rfl, pk_cpy_in (by omega) (by omega)]
      exact congrArg (u1.1 r) (by omega)
    · rw [show l.length - k = 0 by omega, List.drop_eq_nil_of_le (by omega)]; rfl
/-- one is read -/
theorem k_at (ty : kTY σ) {b : Nat} (hb : b ∈ OWb) {r N : Nat} (h1 : σ.2.2.1 b 1 = some r) (h2 : σ.2.2.2.1 r = (21, N)) (hN : N ≤ 600000) (x : Int32) :
    kjY kPP (kQQ Y) d 42 0 (mjL0 2 [.ref b, .int x]) [] σ (fun v u => u = σ ∧ ∃ y, v = some (.int y) ∧ ∀ j, x = nI j → j < N → y = σ.1 r j &&& Int32.ofInt 255) := by
  have kb := ob_k ty hb
  have hno : (∀ j, x = nI j → j < N → False) → kjY kPP (kQQ Y) d 42 7 [some (.ref b), some (.int x)] [] σ (fun v u => u = σ ∧ ∃ y, v = some (.int y) ∧ ∀ j, x = nI j → j < N → y = σ.1 r j &&& Int32.ofInt 255) := by
    intro q
    refine kjZ_y rfl rfl 3 _ _ _ _ ty ?_
    refine And.intro rfl (And.intro (Or.inl rfl) ?_)
    exact ⟨rfl, _, rfl, fun j e1 e2 => (q j e1 e2).elim⟩
  refine kjZ_y rfl rfl 2 _ _ _ _ ty ?_
  refine And.intro (fun c => ?_) (fun c => ?_)
  · refine hno (fun j e1 e2 => ?_)
    rw [e1] at c; exact nI_n0 (by omega) c
  refine kjZ_y rfl rfl 5 _ _ _ _ ty ?_
  refine (And.intro (by assumption) (Exists.intro _ (And.intro h1 (Or.inl (And.intro (kdq h2) (And.intro (fun c2 => ?_) (fun c2 => ?_)))))))
  rotate_left
  · refine hno (fun j e1 e2 => c2 (show x < nI (σ.2.2.2.1 r).2 from ?_))
    rw [h2, e1]; exact nI_lt e2 (by omega)
  have c0 : 0 ≤ x := Int32.not_lt.mp c
  have c3 : x < nI N := by
    have c4 : x < nI (σ.2.2.2.1 r).2 := c2
    rw [h2] at c4; exact c4
  have c5 := Int32.lt_iff_toInt_lt.mp c3
  rw [nI_toInt (by omega)] at c5
  have c6 : 0 ≤ x.toInt := Int32.le_iff_toInt_le.mp c0
  have ek : x.toNatClampNeg < N ∧ x = nI x.toNatClampNeg := by
    have e : (x.toNatClampNeg : Int) = x.toInt := by unfold Int32.toNatClampNeg; exact Int.toNat_of_nonneg c6
    refine ⟨by omega, Int32.toInt_inj.mp ?_⟩
    rw [nI_toInt (by omega)]; exact e.symm
  have vi : vp_in x N := by rw [ek.2]; exact vp_in_nI ek.1 (by omega)
  refine kjZ_y rfl rfl 7 _ _ _ _ ty ?_
  refine (And.intro (by assumption) (Exists.intro _ (And.intro h1 (Or.inl (And.intro (kdk h2) (And.intro (kdv h2 vi) (And.intro rfl (And.intro (Or.inl rfl) ?_))))))))
  refine ⟨rfl, _, rfl, fun j e1 e2 => ?_⟩
  rw [e1, nI_clamp (by omega)]; rfl
end KBO5
