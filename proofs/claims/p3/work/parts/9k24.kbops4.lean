/-! Bytes: bytes are put behind; the first go; the last go; one is read. -/
section KBO4
variable {Y : Nat → MethodName × ByteArray} {d : Nat} {σ : kS}
/-- the row holds no more than before -/
theorem sz_fin {u : kS} {b r N : Nat} {l l' : List Int32} (ty : kTY σ) (ow : OWN σ) (po : POT σ) (hb : b ∈ OWb) (h : BR σ b r N l) (hw : Wi b r σ u) (h2 : BR u b r N l') (hl : l'.length ≤ l.length) : Ch false [(b, 2)] [(b, 1)] σ u ∧ OWN u ∧ POT u := by
  have kb := ob_k ty hb
  have hF : u.2.2.1 = σ.2.2.1 := congrArg (fun t => t.2.1) hw.1
  have hcz : u.2.2.2.2.2.1 = σ.2.2.2.2.2.1 ∧ u.2.2.2.2.2.2 = σ.2.2.2.2.2.2 := ⟨congrArg (fun t => t.2.2.2.2.1) hw.1, congrArg (fun t => t.2.2.2.2.2) hw.1⟩
  have rb : ∀ b', (σ.2.2.2.1 b').1 < 20 → ¬ b' = r := fun b' q z => by rw [z, h.2.1] at q; exact absurd (show (21 : Nat) < 20 from q) (by decide)
  refine ⟨hw.ch kb h, ow.same (fun p _ => by rw [hF]), POT_PO.mpr ((POT_PO (b := b).mp po).same (b := b) ?_ (fun p hp => kl_eq ty hw.ex hp (by rw [hF])) (fun b' hb' q => ?_) ?_ hcz)⟩
  · rw [h2.ks, h.ks]; exact hl
  · exact hw.2 b' 2 (rb b' (by rw [ob_k ty hb']; decide)) (fun z => q z.1)
  · refine hw.2 59 6 (rb 59 (by rw [ty.k (by decide) (c := 4) rfl]; decide)) (fun z => absurd z.2 (by decide))
theorem k_append (ty : kTY σ) (ow : OWN σ) {b : Nat} (hb : b ∈ OWb) {l : List Int32} (h : kBY σ b l) {g M a n : Nat} (kg : σ.2.2.2.1 g = (21, M)) (hM : M ≤ 600000) (ha : a + n ≤ M) (hg : ¬ σ.2.2.1 b 1 = some g) (x2 x3 : Int32) (e2 : x2 = nI a) (e3 : x3 = nI n) (hq : opQ σ b l n) :
    kjY kPP (kQQ Y) (d + 4) 44 0 (mjL0 4 [.ref b, .ref g, .int x2, .int x3]) [] σ (opP σ b l (wd (σ.1 g) a n)) := by
  have kb := ob_k ty hb
  obtain ⟨r, N, h⟩ := h
  have hgb : ¬ g = b := fun z => by rw [z] at kg; rw [kg] at kb; exact absurd (show (21 : Nat) = 0 from kb) (by decide)
  refine kjZ_y rfl rfl 2 _ _ _ _ ty ?_
  refine And.intro (fun c => ?_) (fun c => ?_)
  · exact absurd c (by rw [e2]; exact nI_n0 (by omega))
  refine kjZ_y rfl rfl 2 _ _ _ _ ty ?_
  refine And.intro (fun c2 => ?_) (fun c2 => ?_)
  · exact absurd c2 (by rw [e3]; exact nI_n0 (by omega))
  refine kjZ_y rfl rfl 6 _ _ _ _ ty ?_
  refine (Or.inl (And.intro (kdq kg) (And.intro (fun c3 => ?_) (fun c3 => ?_))))
  · refine absurd (show nI (σ.2.2.2.1 g).2 - x2 < x3 from c3) (Int32.not_lt.mpr ?_)
    rw [kg, e2, e3, pk_sub (by omega)]; exact nI_le (by omega) (by omega)
  refine kjZ_y rfl rfl 3 _ _ _ _ ty ?_
  refine (And.intro (Nat.le_of_ble_eq_true rfl) (And.intro (Or.inl ⟨(Nat.le_of_ble_eq_true rfl), (by assumption)⟩) (And.intro (Nat.le_of_ble_eq_true rfl) (And.intro (Nat.le_of_ble_eq_true rfl) (kjY_mono ty (fun q_ u2 ty2 xu2 h_ => ?_) (k_room ty ow hb h n _ e3 (by omega) hq.1 hq.2))))))
  have q := h_
  intro _ _
  rcases q with ⟨rfl, q⟩ | ⟨rfl, q1, q2, q3, q4, q5, r2, N2, q6, q7⟩
  · refine kjZ_y rfl rfl 1 _ _ _ _ ty2 ?_
    refine And.intro (fun c => ?_) (fun c => ?_)
    · exact absurd rfl c
    · refine kjZ_y rfl rfl 1 _ _ _ _ ty2 ?_
      refine And.intro rfl (And.intro rfl ?_)
      exact op_no hb (wd_len _ _ _) q
  · have kb2 := ob_k ty2 hb
    have hr2 : ¬ g = r2 := fun z => by
      rcases q5.2.2.2 (b, 1) (ow_b hb) r2 q6.1 with y | y | ⟨p, hp, y⟩
      · exact hg (by rw [z]; exact y.symm.trans q6.1)
      · have := ty.lr kg (by decide); omega
      · rw [List.mem_singleton.mp hp] at y; exact hg (by rw [z]; exact y)
    have hkg2 : u2.2.2.2.1 g = (21, M) := xu2.kl ty kg (by show ¬ (21 : Nat) = 99; decide)
    have hIg : u2.1 g = σ.1 g := (q5.2.2.1 g (by rw [kg]; exact (show 20 ≤ 21 by decide)) (by rw [kg]; exact (show 21 ≤ 25 by decide)) (fun p hp y => by rw [List.mem_singleton.mp hp] at y; exact hg y)).1
    have hbr := br_ne ty2 hb q6
    have s5 := q6.2.2.2.2.1
    refine kjZ_y rfl rfl 1 _ _ _ _ ty2 ?_
    refine And.intro (fun c => ?_) (fun c => ?_)
    rotate_left
    · exact absurd (show ¬ (1 : Int32) = 0 by decide) c
    refine kjZ_y rfl rfl 14 _ _ _ _ ty2 ?_
    refine (And.intro (by assumption) (Exists.intro _ (And.intro q6.1 (And.intro (by assumption) (Exists.intro a (Exists.intro l.length (Exists.intro n (And.intro ⟨e2, s5, e3⟩ (And.intro ⟨by rw [hkg2, q6.2.1], by rw [hkg2]; exact ha, by rw [q6.2.1]; show _ + _ ≤ N2; omega⟩ (And.intro ⟨(Nat.le_of_ble_eq_true rfl), (Nat.le_of_ble_eq_true rfl)⟩ (Or.inl (And.intro (Or.inr (kdk q6.2.1)) (fun ty2' => (And.intro (by assumption) (And.intro (by assumption) (And.intro (Or.inl rfl) (fun ty2'' => ?_)))))))))))))))))
    have go : ∀ u, kTY u → Wi b r2 u2 u → BR u b r2 N2 (l ++ wd (σ.1 g) a n) → kjY kPP (kQQ Y) (d + 4) 44 29 [some (.ref b), some (.ref g), some (.int x2), some (.int x3)] [] u (opP σ b l (wd (σ.1 g) a n)) := by
      intro u tu wu bu
      refine kjZ_y rfl rfl 1 _ _ _ _ tu ?_
      refine And.intro rfl (And.intro rfl ?_)
      exact op_fin ty ty2 hb q3 q4 q5 q6 wu bu (wd_len _ _ _)
    have eI : ∀ h y, mjIu (kUp u2.1 r2 (va_cpy (u2.1 g) (u2.1 r2) a l.length n)) b 2 (kUp u2.1 r2 (va_cpy (u2.1 g) (u2.1 r2) a l.length n) b 2 + x3) h y = if h = b ∧ y = 2 then u2.1 b 2 + x3 else if h = r2 then va_cpy (u2.1 g) (u2.1 r2) a l.length n y else u2.1 h y := by
      intro h y
      rw [mjIu_at]
      by_cases z : h = b ∧ y = 2
      · rw [if_pos z, if_pos z, kUp_n hbr]
      · rw [if_neg z, if_neg z]
        by_cases z2 : h = r2
        · rw [if_pos z2, z2, kUp_s]
        · rw [if_neg z2, kUp_n z2]
    have wu : Wi b r2 u2 (mjIu (kUp u2.1 r2 (va_cpy (u2.1 g) (u2.1 r2) a l.length n)) b 2 (kUp u2.1 r2 (va_cpy (u2.1 g) (u2.1 r2) a l.length n) b 2 + x3), u2.2) := ⟨rfl, fun h y p1 p2 => (eI h y).trans (by rw [if_neg p2, if_neg p1])⟩
    refine go _ ty2'' wu (q6.put hbr wu ?_ ?_ (fun j hj => ?_) ?_)
    · rw [wd_len]; omega
    · refine (eI b 2).trans ?_
      rw [if_pos ⟨rfl, rfl⟩, s5, e3, nI_add, wd_len]
    · refine (eI r2 j).trans ?_
      rw [if_neg (fun z => hbr z.1.symm), if_pos rfl, pk_cpy_out (Or.inl (by omega))]
    · rw [wd_len]
      refine wd_congr fun j hj => (eI r2 _).trans ?_
      rw [if_neg (fun z => hbr z.1.symm), if_pos rfl, pk_cpy_in (by omega) (by omega), hIg]
      exact congrArg (σ.1 g) (by omega)
/-- only so many bytes stay -/
theorem k_cut (ty : kTY σ) (ow : OWN σ) (po : POT σ) {b : Nat} (hb : b ∈ OWb) {r N : Nat} {l : List Int32} (h : BR σ b r N l) (x : Int32) :
    kjY kPP (kQQ Y) d 46 0 (mjL0 2 [.ref b, .int x]) [] σ (fun v u => v = none ∧ Wi b r σ u ∧ Ch false [(b, 2)] [(b, 1)] σ u ∧ OWN u ∧ POT u ∧ BR u b r N (if 0 ≤ x ∧ x < nI l.length then l.take x.toNatClampNeg else l)) := by
  have kb := ob_k ty hb
  have hbr := br_ne ty hb h
  have hno : ¬ (0 ≤ x ∧ x < nI l.length) → kjY kPP (kQQ Y) d 46 9 [some (.ref b), some (.int x)] [] σ (fun v u => v = none ∧ Wi b r σ u ∧ Ch false [(b, 2)] [(b, 1)] σ u ∧ OWN u ∧ POT u ∧ BR u b r N (if 0 ≤ x ∧ x < nI l.length then l.take x.toNatClampNeg else l)) := by
    intro q
    refine kjZ_y rfl rfl 1 _ _ _ _ ty ?_
    refine And.intro rfl (And.intro rfl ?_)
    rw [if_neg q]
    exact ⟨rfl, Wi.rf, Ch.rf, ow, po, h⟩
  refine kjZ_y rfl rfl 2 _ _ _ _ ty ?_
  refine And.intro (fun c => ?_) (fun c => ?_)
  · exact hno (fun q => Int32.not_lt.mpr q.1 c)
  have c0 : 0 ≤ x := Int32.not_lt.mp c
  refine kjZ_y rfl rfl 4 _ _ _ _ ty ?_
  refine (And.intro (by assumption) (And.intro (fun c2 => ?_) (fun c2 => ?_)))
  · refine hno (fun q => Int32.not_lt.mpr (show σ.1 b 2 ≤ x from c2) ?_)
    rw [h.2.2.2.2.1]; exact q.2
  have c3 : x < nI l.length := by
    have c4 := Int32.not_le.mp (show ¬ σ.1 b 2 ≤ x from c2)
    rw [h.2.2.2.2.1] at c4; exact c4
  have hN := h.2.2.1.2
  have hlN := h.2.2.2.2.2.1
  have c5 := Int32.lt_iff_toInt_lt.mp c3
  have c6 := Int32.le_iff_toInt_le.mp c0
  rw [nI_toInt (by omega)] at c5
  have c6 : 0 ≤ x.toInt := c6
  have ek : x.toNatClampNeg < l.length ∧ x = nI x.toNatClampNeg := by
    have e : (x.toNatClampNeg : Int) = x.toInt := by unfold Int32.toNatClampNeg; exact Int.toNat_of_nonneg c6
    refine ⟨by omega, Int32.toInt_inj.mp ?_⟩
    rw [nI_toInt (by omega)]; exact e.symm
  refine kjZ_y rfl rfl 3 _ _ _ _ ty ?_
  refine (And.intro (by assumption) (And.intro (Or.inl rfl) (fun ty' => ?_)))
  have go : ∀ u, kTY u → u = (mjIu σ.1 b 2 x, σ.2) → kjY kPP (kQQ Y) d 46 9 [some (.ref b), some (.int x)] [] u (fun v u => v = none ∧ Wi b r σ u ∧ Ch false [(b, 2)] [(b, 1)] σ u ∧ OWN u ∧ POT u ∧ BR u b r N (if 0 ≤ x ∧ x < nI l.length then l.take x.toNatClampNeg else l)) := by
    intro u tu eu
    refine kjZ_y rfl rfl 1 _ _ _ _ tu ?_
    refine And.intro rfl (And.intro rfl ?_)
    have hw : Wi b r σ u := ⟨by rw [eu], fun h y p1 p2 => by rw [eu]; show mjIu σ.1 b 2 x h y = _; rw [mjIu_at, if_neg p2]⟩
    have hl : (l.take x.toNatClampNeg).length = x.toNatClampNeg := by rw [List.length_take]; omega
    have hB : BR u b r N (l.take x.toNatClampNeg) := by
      have hF : u.2.2.1 = σ.2.2.1 := congrArg (fun t => t.2.1) hw.1
      have hD : u.2.2.2.1 = σ.2.2.2.1 := congrArg (fun t => t.2.2.1) hw.1
      obtain ⟨h1, h2, h3, h4, h5, h6, h7⟩ := h
      refine ⟨by rw [hF]; exact h1, by rw [hD]; exact h2, h3, (hw.2 b 0 hbr (fun z => absurd z.2 (by decide))).trans h4, ?_, by omega, ?_⟩
      · rw [hl, eu]; show mjIu σ.1 b 2 x b 2 = _
        rw [mjIu_at, if_pos ⟨rfl, rfl⟩]; exact ek.2
      · rw [hl, wd_take h7 (by omega)]
        refine wd_congr fun k hk => ?_
        rw [eu]; show mjIu σ.1 b 2 x r _ = _
        rw [mjIu_at, if_neg (fun z => hbr z.1.symm)]
    rw [if_pos ⟨c0, c3⟩]
    exact ⟨rfl, hw, (sz_fin ty ow po hb h hw hB (by omega)).1, (sz_fin ty ow po hb h hw hB (by omega)).2.1, (sz_fin ty ow po hb h hw hB (by omega)).2.2, hB⟩
  exact go _ ty' rfl
end KBO4
