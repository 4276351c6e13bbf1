/-! Words: does a pattern fit; it ends, and no index is beyond a row. -/
section KFITS
variable {Y : Nat → MethodName × ByteArray} {d : Nat} {σ0 σ u : kS} {B ws nm nm' : List (List Int32)} {ks : List KC}
theorem k_plainAt (ty : kTY σ) {g M a t : Nat} (kg : σ.2.2.2.1 g = (21, M)) (hM : M ≤ 600000) (ha : a < t) (ht : t ≤ M) (x1 x2 : Int32) (e1 : x1 = nI a) (e2 : x2 = nI t) : kjY kPP (kQQ Y) d 87 0 (mjL0 3 [.ref g, .int x1, .int x2]) [] σ (fun r u => u = σ ∧ ∃ b, r = some (.int (nI b)) ∧ a ≤ b ∧ b < t) := by
  have ea : x1 + Int32.ofInt 1 = nI (a + 1) := by rw [e1]; exact nI_1 a
  refine kjZ_y rfl rfl 5 _ _ _ _ ty ?_
  refine (Or.inl (And.intro (kdk kg) (And.intro (kdv kg (by rw [e1]; exact vp_in_nI (by omega) (by omega))) (And.intro (fun c => ?_) (fun c => ?_)))))
  · refine kjZ_y rfl rfl 1 _ _ _ _ ty ?_
    refine kjZ_y rfl rfl 1 _ _ _ _ ty ?_
    refine And.intro rfl (And.intro (Or.inl rfl) ?_)
    exact ⟨rfl, a, by rw [e1], Nat.le_refl _, ha⟩
  refine kjZ_y rfl rfl 5 _ _ _ _ ty ?_
  refine And.intro (fun c2 => ?_) (fun c2 => ?_)
  · refine kjZ_y rfl rfl 1 _ _ _ _ ty ?_
    refine kjZ_y rfl rfl 1 _ _ _ _ ty ?_
    refine And.intro rfl (And.intro (Or.inl rfl) ?_)
    exact ⟨rfl, a, by rw [e1], Nat.le_refl _, ha⟩
  have c2 : ¬ x2 ≤ x1 + Int32.ofInt 1 := c2
  rw [ea, e2, nle (by omega) (by omega)] at c2
  refine kjZ_y rfl rfl 4 _ _ _ _ ty ?_
  refine kjZ_y rfl rfl 1 _ _ _ _ ty ?_
  refine And.intro rfl (And.intro (Or.inl rfl) ?_)
  refine ⟨rfl, a + 1, ?_, by omega, by omega⟩
  show some (Value.int (x1 + Int32.ofInt 1)) = _; rw [ea]
/-- where a pattern goes on, or nowhere -/
def ftP (σ : kS) (t : Nat) : kK := fun r u => u = σ ∧ ∃ z : Int32, r = some (.int z) ∧ (z < 0 ∨ ∃ b, z = nI b ∧ b ≤ t)
theorem k_fitsC_l (ty : kTY σ) {g M t : Nat} (kg : σ.2.2.2.1 g = (21, M)) (hM : M ≤ 600000) (ht : t ≤ M) (x1 x2 x3 x4 : Int32) (e2 : x2 = nI t) : ∀ (f a : Nat) (x5 x6 : Int32) (o7 o8 : Option Value), a + f = t → x5 = nI a → kjY kPP (kQQ Y) (d + 1) 86 22 [some (.ref g), some (.int x1), some (.int x2), some (.int x3), some (.int x4), some (.int x5), some (.int x6), o7, o8] [] σ (ftP σ t) := by
  have fin : ∀ (a : Nat) (x5 x6 : Int32) (o7 o8 : Option Value), a ≤ t → x5 = nI a → kjY kPP (kQQ Y) (d + 1) 86 88 [some (.ref g), some (.int x1), some (.int x2), some (.int x3), some (.int x4), some (.int x5), some (.int x6), o7, o8] [] σ (ftP σ t) := by
    intro a x5 x6 o7 o8 ha e5
    refine kjZ_y rfl rfl 3 _ _ _ _ ty ?_
    refine And.intro (fun c => ?_) (fun c => ?_)
    · have ea : x5 + Int32.ofInt 1 = nI (a + 1) := by rw [e5]; exact nI_1 a
      refine kjZ_y rfl rfl 5 _ _ _ _ ty ?_
      refine (And.intro (Nat.le_of_ble_eq_true rfl) (And.intro (Nat.le_of_ble_eq_true rfl) (And.intro (Nat.le_of_ble_eq_true rfl) (kjY_mono ty (fun q_ u1 ty1 xu1 h_ => ?_) (k_min ty _ _)))))
      obtain ⟨rfl, rfl⟩ := h_
      intro _ _
      refine kjZ_y rfl rfl 1 _ _ _ _ ty1 ?_
      refine And.intro rfl (And.intro (Or.inl rfl) ?_)
      refine ⟨rfl, _, rfl, Or.inr ?_⟩
      by_cases c2 : x2 < x5 + Int32.ofInt 1
      · rw [if_pos c2]; exact ⟨t, e2, Nat.le_refl _⟩
      · rw [if_neg c2]
        rw [ea, e2, nlt (by omega) (by omega)] at c2
        exact ⟨a + 1, ea, by omega⟩
    · refine kjZ_y rfl rfl 2 _ _ _ _ ty ?_
      refine kjZ_y rfl rfl 1 _ _ _ _ ty ?_
      refine And.intro rfl (And.intro (Or.inl rfl) ?_)
      exact ⟨rfl, _, rfl, Or.inl (by decide)⟩
  intro f
  induction f using Nat.strongRecOn with
  | ind f ih =>
    intro a x5 x6 o7 o8 hf e5
    refine kjZ_y rfl rfl 3 _ _ _ _ ty ?_
    refine And.intro (fun c => ?_) (fun c => ?_)
    · exact fin a x5 x6 o7 o8 (by omega) e5
    have c : ¬ x2 ≤ x5 := c
    rw [e5, e2, nle (by omega) (by omega)] at c
    refine kjZ_y rfl rfl 5 _ _ _ _ ty ?_
    refine (Or.inl (And.intro (kdk kg) (And.intro (kdv kg (by rw [e5]; exact vp_in_nI (by omega) (by omega))) (And.intro (fun c2 => ?_) (fun c2 => ?_)))))
    · exact fin a x5 x6 o7 o8 (by omega) e5
    refine kjZ_y rfl rfl 4 _ _ _ _ ty ?_
    refine (And.intro (Nat.le_of_ble_eq_true rfl) (And.intro (Nat.le_of_ble_eq_true rfl) (And.intro (Nat.le_of_ble_eq_true rfl) (kjY_mono ty (fun q_ u1 ty1 xu1 h_ => ?_) (k_plainAt ty kg hM (a := a) (t := t) (by omega) ht _ _ e5 e2)))))
    obtain ⟨rfl, b, rfl, hb1, hb2⟩ := h_
    intro _ _
    refine kjZ_y rfl rfl 3 _ _ _ _ ty1 ?_
    refine (And.intro (Nat.le_of_ble_eq_true rfl) (And.intro (Nat.le_of_ble_eq_true rfl) ?_))
    -- the rest of a turn
    have rest : ∀ (l : Nat), b ≤ l → l < t → kjY kPP (kQQ Y) (d + 1) 86 63 [some (.ref g), some (.int x1), some (.int x2), some (.int x3), some (.int x4), some (.int x5), some (.int x6), some (.int (nI b)), some (.int (nI l))] [] u1 (ftP u1 t) := by
      intro l h1 h2
      have s81 : ∀ y : Int32, kjY kPP (kQQ Y) (d + 1) 86 81 [some (.ref g), some (.int x1), some (.int x2), some (.int x3), some (.int x4), some (.int x5), some (.int x6), some (.int (nI b)), some (.int (nI l))] [.int y, .int x6] u1 (ftP u1 t) := by
        intro y
        refine kjZ_y rfl rfl 7 _ _ _ _ ty1 ?_
        refine (And.intro (Nat.le_of_ble_eq_true rfl) (And.intro (Nat.le_of_ble_eq_true rfl) ?_))
        exact ih (t - (l + 1)) (by omega) (l + 1) _ _ _ _ (by omega) (nI_1 l)
      refine kjZ_y rfl rfl 8 _ _ _ _ ty1 ?_
      refine (Or.inl (And.intro (kdk kg) (And.intro (kdv kg (vp_in_nI (by omega) (by omega))) (And.intro (fun c3 => ?_) (fun c3 => ?_)))))
      · refine kjZ_y rfl rfl 1 _ _ _ _ ty1 ?_
        exact s81 _
      refine kjZ_y rfl rfl 7 _ _ _ _ ty1 ?_
      refine (Or.inl (And.intro (kdk kg) (And.intro (kdv kg (vp_in_nI (by omega) (by omega))) (And.intro (fun c4 => ?_) (fun c4 => ?_)))))
      · refine kjZ_y rfl rfl 1 _ _ _ _ ty1 ?_
        exact s81 _
      refine kjZ_y rfl rfl 2 _ _ _ _ ty1 ?_
      exact s81 _
    have eb1 : nI b + Int32.ofInt 1 = nI (b + 1) := nI_1 b
    have eb2 : nI b + Int32.ofInt 2 = nI (b + 2) := by rw [show (Int32.ofInt 2) = nI 2 from rfl, nI_add]
    refine kjZ_y rfl rfl 5 _ _ _ _ ty1 ?_
    refine And.intro (fun c3 => ?_) (fun c3 => ?_)
    · exact rest b (Nat.le_refl _) hb2
    have c3 : ¬ x2 ≤ nI b + Int32.ofInt 2 := c3
    rw [eb2, e2, nle (by omega) (by omega)] at c3
    refine kjZ_y rfl rfl 7 _ _ _ _ ty1 ?_
    refine (Or.inl (And.intro (kdk kg) (And.intro (kdv kg (by rw [eb1]; exact vp_in_nI (by omega) (by omega))) (And.intro (fun c4 => ?_) (fun c4 => ?_)))))
    · exact rest b (Nat.le_refl _) hb2
    refine kjZ_y rfl rfl 7 _ _ _ _ ty1 ?_
    refine (Or.inl (And.intro (kdk kg) (And.intro (kdv kg (by rw [eb2]; exact vp_in_nI (by omega) (by omega))) (And.intro (fun c5 => ?_) (fun c5 => ?_)))))
    · exact rest b (Nat.le_refl _) hb2
    refine kjZ_y rfl rfl 6 _ _ _ _ ty1 ?_
    refine (And.intro (Nat.le_of_ble_eq_true rfl) (And.intro (Nat.le_of_ble_eq_true rfl) (And.intro (Nat.le_of_ble_eq_true rfl) (kjY_mono ty1 (fun q_ u2 ty2 xu2 h_ => ?_) (k_plainAt ty1 kg hM (a := b + 2) (t := t) (by omega) ht _ _ eb2 e2)))))
    obtain ⟨rfl, l, rfl, hl1, hl2⟩ := h_
    intro _ _
    refine kjZ_y rfl rfl 1 _ _ _ _ ty2 ?_
    refine (And.intro (Nat.le_of_ble_eq_true rfl) ?_)
    exact rest l (by omega) hl2
theorem k_fitsClass (ty : kTY σ) {g M a t : Nat} (kg : σ.2.2.2.1 g = (21, M)) (hM : M ≤ 600000) (ha : a ≤ t) (ht : t ≤ M) (x1 x2 x3 : Int32) (e1 : x1 = nI a) (e2 : x2 = nI t) : kjY kPP (kQQ Y) (d + 1) 86 0 (mjL0 9 [.ref g, .int x1, .int x2, .int x3]) [] σ (ftP σ t) := by
  have s12 : ∀ y : Int32, (¬ y = 0 → a < t) → kjY kPP (kQQ Y) (d + 1) 86 11 [some (.ref g), some (.int x1), some (.int x2), some (.int x3), none, none, none, none, none] [.int y] σ (ftP σ t) := by
    intro y hy
    refine kjZ_y rfl rfl 3 _ _ _ _ ty ?_
    refine (And.intro (Nat.le_of_ble_eq_true rfl) (And.intro (fun c => ?_) (fun c => ?_)))
    · refine kjZ_y rfl rfl 4 _ _ _ _ ty ?_
      refine (And.intro (Nat.le_of_ble_eq_true rfl) (And.intro (Nat.le_of_ble_eq_true rfl) ?_))
      exact k_fitsC_l ty kg hM ht x1 x2 x3 _ e2 (t - a) a _ _ _ _ (by omega) e1
    · have := hy c
      refine kjZ_y rfl rfl 7 _ _ _ _ ty ?_
      refine (And.intro (Nat.le_of_ble_eq_true rfl) (And.intro (Nat.le_of_ble_eq_true rfl) ?_))
      exact k_fitsC_l ty kg hM ht x1 x2 x3 _ e2 (t - (a + 1)) (a + 1) _ _ _ _ (by omega) (by rw [e1]; exact nI_1 a)
  refine kjZ_y rfl rfl 3 _ _ _ _ ty ?_
  refine And.intro (fun c => ?_) (fun c => ?_)
  · refine kjZ_y rfl rfl 1 _ _ _ _ ty ?_
    exact s12 _ (fun z => absurd rfl z)
  have c : ¬ x2 ≤ x1 := c
  rw [e1, e2, nle (by omega) (by omega)] at c
  refine kjZ_y rfl rfl 5 _ _ _ _ ty ?_
  refine (Or.inl (And.intro (kdk kg) (And.intro (kdv kg (by rw [e1]; exact vp_in_nI (by omega) (by omega))) (And.intro (fun c2 => ?_) (fun c2 => ?_)))))
  · refine kjZ_y rfl rfl 1 _ _ _ _ ty ?_
    exact s12 _ (fun z => absurd rfl z)
  refine kjZ_y rfl rfl 2 _ _ _ _ ty ?_
  exact s12 _ (fun _ => by omega)
theorem k_fitsOne (ty : kTY σ) {g M a t : Nat} (kg : σ.2.2.2.1 g = (21, M)) (hM : M ≤ 600000) (ha : a < t) (ht : t ≤ M) (x1 x2 x3 : Int32) (e1 : x1 = nI a) (e2 : x2 = nI t) : kjY kPP (kQQ Y) (d + 2) 85 0 (mjL0 6 [.ref g, .int x1, .int x2, .int x3]) [] σ (ftP σ t) := by
  have ea : x1 + Int32.ofInt 1 = nI (a + 1) := by rw [e1]; exact nI_1 a
  have s35 : ∀ (l : Nat) (y x4 : Int32), y = nI l → l < t → kjY kPP (kQQ Y) (d + 2) 85 35 [some (.ref g), some (.int x1), some (.int x2), some (.int x3), some (.int x4), none] [.int y] σ (ftP σ t) := by
    intro l y x4 ey hl
    refine kjZ_y rfl rfl 8 _ _ _ _ ty ?_
    refine (And.intro (Nat.le_of_ble_eq_true rfl) (Or.inl (And.intro (kdk kg) (And.intro (kdv kg (by rw [ey]; exact vp_in_nI (by omega) (by omega))) (And.intro (fun c => ?_) (fun c => ?_))))))
    · refine kjZ_y rfl rfl 1 _ _ _ _ ty ?_
      refine kjZ_y rfl rfl 1 _ _ _ _ ty ?_
      refine And.intro rfl (And.intro (Or.inl rfl) ?_)
      exact ⟨rfl, _, rfl, Or.inl (by decide)⟩
    · refine kjZ_y rfl rfl 4 _ _ _ _ ty ?_
      refine kjZ_y rfl rfl 1 _ _ _ _ ty ?_
      refine And.intro rfl (And.intro (Or.inl rfl) ?_)
      exact ⟨rfl, _, rfl, Or.inr ⟨l + 1, by rw [ey]; exact nI_1 l, by omega⟩⟩
  refine kjZ_y rfl rfl 7 _ _ _ _ ty ?_
  refine (Or.inl (And.intro (kdk kg) (And.intro (kdv kg (by rw [e1]; exact vp_in_nI (by omega) (by omega))) (And.intro (Nat.le_of_ble_eq_true rfl) (And.intro (fun c => ?_) (fun c => ?_))))))
  rotate_left
  · refine kjZ_y rfl rfl 4 _ _ _ _ ty ?_
    refine And.intro rfl (And.intro (Or.inl rfl) ?_)
    exact ⟨rfl, _, rfl, Or.inr ⟨a + 1, ea, by omega⟩⟩
  refine kjZ_y rfl rfl 3 _ _ _ _ ty ?_
  refine And.intro (fun c2 => ?_) (fun c2 => ?_)
  rotate_left
  · refine kjZ_y rfl rfl 7 _ _ _ _ ty ?_
    refine (And.intro (Nat.le_of_ble_eq_true rfl) (And.intro (Nat.le_of_ble_eq_true rfl) (And.intro (Nat.le_of_ble_eq_true rfl) (kjY_mono ty (fun q_ u1 ty1 xu1 h_ => ?_) (k_fitsClass ty kg hM (a := a + 1) (t := t) (by omega) ht _ _ _ ea e2)))))
    obtain ⟨rfl, z, rfl, q⟩ := h_
    intro _ _
    refine kjZ_y rfl rfl 1 _ _ _ _ ty1 ?_
    refine And.intro rfl (And.intro (Or.inl rfl) ?_)
    exact ⟨rfl, z, rfl, q⟩
  refine kjZ_y rfl rfl 3 _ _ _ _ ty ?_
  refine And.intro (fun c3 => ?_) (fun c3 => ?_)
  · refine kjZ_y rfl rfl 1 _ _ _ _ ty ?_
    exact s35 a _ _ e1 ha
  refine kjZ_y rfl rfl 5 _ _ _ _ ty ?_
  refine And.intro (fun c4 => ?_) (fun c4 => ?_)
  · refine kjZ_y rfl rfl 1 _ _ _ _ ty ?_
    exact s35 a _ _ e1 ha
  have c4 : ¬ x2 ≤ x1 + Int32.ofInt 1 := c4
  rw [ea, e2, nle (by omega) (by omega)] at c4
  refine kjZ_y rfl rfl 4 _ _ _ _ ty ?_
  exact s35 (a + 1) _ _ ea (by omega)
/-- yes or no -/
def yoP (σ : kS) : kK := fun r u => u = σ ∧ ∃ z : Int32, r = some (.int z) ∧ (z = 0 ∨ z = 1)
theorem k_fits_s (ty : kTY σ) {g M t : Nat} (kg : σ.2.2.2.1 g = (21, M)) (hM : M ≤ 600000) (ht : t ≤ M) (x2 x3 x4 x6 x7 x8 x9 : Int32) (n10 n12 : Int64) (o14 : Option Value) (e3 : x3 = nI t) : ∀ (f a : Nat) (x5 : Int32), a + f = t → x5 = nI a → kjY kPP (kQQ Y) (d + 3) 84 115 [some (.ref 48), some (.ref g), some (.int x2), some (.int x3), some (.int x4), some (.int x5), some (.int x6), some (.int x7), some (.int x8), some (.int x9), some (.long n10), none, some (.long n12), none, o14] [] σ (yoP σ) := by
  have fin : ∀ x5 : Int32, kjY kPP (kQQ Y) (d + 3) 84 125 [some (.ref 48), some (.ref g), some (.int x2), some (.int x3), some (.int x4), some (.int x5), some (.int x6), some (.int x7), some (.int x8), some (.int x9), some (.long n10), none, some (.long n12), none, o14] [] σ (yoP σ) := by
    intro x5
    refine kjZ_y rfl rfl 3 _ _ _ _ ty ?_
    refine And.intro (fun c => ?_) (fun c => ?_)
    · refine kjZ_y rfl rfl 2 _ _ _ _ ty ?_
      refine And.intro rfl (And.intro (Or.inr (Or.inl ⟨rfl, Or.inl rfl⟩)) ?_)
      exact ⟨rfl, _, rfl, Or.inl rfl⟩
    refine kjZ_y rfl rfl 3 _ _ _ _ ty ?_
    refine And.intro (fun c2 => ?_) (fun c2 => ?_)
    · refine kjZ_y rfl rfl 2 _ _ _ _ ty ?_
      refine And.intro rfl (And.intro (Or.inr (Or.inl ⟨rfl, Or.inl rfl⟩)) ?_)
      exact ⟨rfl, _, rfl, Or.inl rfl⟩
    refine kjZ_y rfl rfl 3 _ _ _ _ ty ?_
    refine And.intro rfl (And.intro (Or.inr (Or.inl ⟨rfl, Or.inr rfl⟩)) ?_)
    exact ⟨rfl, _, rfl, Or.inr rfl⟩
  intro f
  induction f with
  | zero =>
    intro a x5 hf e5
    refine kjZ_y rfl rfl 3 _ _ _ _ ty ?_
    refine And.intro (fun c => ?_) (fun c => ?_)
    · exact fin x5
    · refine absurd (show x3 ≤ x5 from ?_) c
      rw [e3, e5, nle (by omega) (by omega)]; omega
  | succ f ih =>
    intro a x5 hf e5
    refine kjZ_y rfl rfl 3 _ _ _ _ ty ?_
    refine And.intro (fun c => ?_) (fun c => ?_)
    · exact fin x5
    refine kjZ_y rfl rfl 5 _ _ _ _ ty ?_
    refine (Or.inl (And.intro (kdk kg) (And.intro (kdv kg (by rw [e5]; exact vp_in_nI (by omega) (by omega))) (And.intro (fun c2 => ?_) (fun c2 => ?_)))))
    · exact fin x5
    refine kjZ_y rfl rfl 2 _ _ _ _ ty ?_
    exact ih (a + 1) _ (by omega) (by rw [e5]; exact nI_1 a)
set_option maxHeartbeats 1000000 in
theorem k_fits_l (ty : kTY σ) {g M t : Nat} (kg : σ.2.2.2.1 g = (21, M)) (hM : M ≤ 600000) (ht : t ≤ M) {rb NB e : Nat} (b1 : σ.2.2.1 48 0 = some rb) (b2 : σ.2.2.2.1 rb = (21, NB)) (he : e ≤ NB) (hNB : NB ≤ 470000) (x2 x3 x4 x7 : Int32) (e3 : x3 = nI t) (e7 : x7 = nI e) {m : Nat} (hm : m < 2 ^ 60) (n10 : Int64) (e10 : n10 = lN m) : ∀ (f i a p : Nat) (x5 x6 x8 x9 : Int32) (n12 : Int64) (o14 : Option Value), i + f = m → a ≤ t → p ≤ e → x5 = nI a → x6 = nI p → n12 = lN i → (x8 < 0 ∨ ∃ s b, x8 = nI s ∧ s < t ∧ x9 = nI b ∧ b ≤ p) →
    kjY kPP (kQQ Y) (d + 3) 84 48 [some (.ref 48), some (.ref g), some (.int x2), some (.int x3), some (.int x4), some (.int x5), some (.int x6), some (.int x7), some (.int x8), some (.int x9), some (.long n10), none, some (.long n12), none, o14] [] σ (yoP σ) := by
  intro f
  induction f with
  | zero =>
    intro i a p x5 x6 x8 x9 n12 o14 hi ha hp e5 e6 e12 hst
    refine kjZ_y rfl rfl 4 _ _ _ _ ty ?_
    refine And.intro (fun c => ?_) (fun c => ?_)
    · exact k_fits_s ty kg hM ht x2 x3 x4 x6 x7 x8 x9 n10 n12 o14 e3 (t - a) a x5 (by omega) e5
    · refine absurd ((lg_cmp_ge _ _).mpr (show n10 ≤ n12 from ?_)) c
      rw [e10, e12, show i = m by omega]; exact Int64.le_refl _
  | succ f ih =>
    intro i a p x5 x6 x8 x9 n12 o14 hi ha hp e5 e6 e12 hst
    refine kjZ_y rfl rfl 4 _ _ _ _ ty ?_
    refine And.intro (fun c => ?_) (fun c => ?_)
    · exact k_fits_s ty kg hM ht x2 x3 x4 x6 x7 x8 x9 n10 n12 o14 e3 (t - a) a x5 (by omega) e5
    refine kjZ_y rfl rfl 3 _ _ _ _ ty ?_
    refine And.intro (fun c2 => ?_) (fun c2 => ?_)
    · exact k_fits_s ty kg hM ht x2 x3 x4 x6 x7 x8 x9 n10 n12 o14 e3 (t - a) a x5 (by omega) e5
    have c2 : ¬ x7 ≤ x6 := c2
    rw [e6, e7, nle (by omega) (by omega)] at c2
    -- the next turn
    have nxt : ∀ (a' p' : Nat) (y5 y6 y8 y9 y14 : Int32), a' ≤ t → p' ≤ e → y5 = nI a' → y6 = nI p' → (y8 < 0 ∨ ∃ s b, y8 = nI s ∧ s < t ∧ y9 = nI b ∧ b ≤ p') → kjY kPP (kQQ Y) (d + 3) 84 110 [some (.ref 48), some (.ref g), some (.int x2), some (.int x3), some (.int x4), some (.int y5), some (.int y6), some (.int x7), some (.int y8), some (.int y9), some (.long n10), none, some (.long n12), none, some (.int y14)] [] σ (yoP σ) := by
      intro a' p' y5 y6 y8 y9 y14 h1 h2 h3 h4 h5
      refine kjZ_y rfl rfl 5 _ _ _ _ ty ?_
      refine (And.intro (Nat.le_of_ble_eq_true rfl) ?_)
      refine ih (i + 1) a' p' y5 y6 y8 y9 _ _ (by omega) h1 h2 h3 h4 ?_ h5
      rw [e12]; exact lN_1 i
    -- with what stands next
    have s92 : ∀ (y14 : Int32), (y14 < 0 ∨ ∃ b, y14 = nI b ∧ b ≤ t) → kjY kPP (kQQ Y) (d + 3) 84 92 [some (.ref 48), some (.ref g), some (.int x2), some (.int x3), some (.int x4), some (.int x5), some (.int x6), some (.int x7), some (.int x8), some (.int x9), some (.long n10), none, some (.long n12), none, some (.int y14)] [] σ (yoP σ) := by
      intro y14 hy
      refine kjZ_y rfl rfl 2 _ _ _ _ ty ?_
      refine And.intro (fun c5 => ?_) (fun c5 => ?_)
      · refine kjZ_y rfl rfl 2 _ _ _ _ ty ?_
        refine And.intro (fun c6 => ?_) (fun c6 => ?_)
        · refine kjZ_y rfl rfl 2 _ _ _ _ ty ?_
          refine And.intro rfl (And.intro (Or.inr (Or.inl ⟨rfl, Or.inl rfl⟩)) ?_)
          exact ⟨rfl, _, rfl, Or.inl rfl⟩
        · rcases hst with h | ⟨s, b, h1, h2, h3, h4⟩
          · exact absurd h c6
          refine kjZ_y rfl rfl 8 _ _ _ _ ty ?_
          refine (And.intro (Nat.le_of_ble_eq_true rfl) (And.intro (Nat.le_of_ble_eq_true rfl) ?_))
          refine nxt (s + 1) (b + 1) _ _ _ _ _ (by omega) (by omega) (by rw [h1]; exact nI_1 s) (by rw [h3]; exact nI_1 b) (Or.inr ⟨s, b + 1, h1, h2, by rw [h3]; exact nI_1 b, Nat.le_refl _⟩)
      · rcases hy with h | ⟨b, h1, h2⟩
        · exact absurd h c5
        refine kjZ_y rfl rfl 4 _ _ _ _ ty ?_
        refine (And.intro (Nat.le_of_ble_eq_true rfl) ?_)
        refine nxt b (p + 1) _ _ _ _ _ h2 (by omega) h1 (by rw [e6]; exact nI_1 p) ?_
        rcases hst with h | ⟨s, b, h1, h2, h3, h4⟩
        · exact Or.inl h
        · exact Or.inr ⟨s, b, h1, h2, h3, by omega⟩
    have s77 : ∀ (y : Int32), (y < 0 ∨ ∃ b, y = nI b ∧ b ≤ t) → kjY kPP (kQQ Y) (d + 3) 84 77 [some (.ref 48), some (.ref g), some (.int x2), some (.int x3), some (.int x4), some (.int x5), some (.int x6), some (.int x7), some (.int x8), some (.int x9), some (.long n10), none, some (.long n12), none, o14] [.int y] σ (yoP σ) := by
      intro y hy
      refine kjZ_y rfl rfl 4 _ _ _ _ ty ?_
      refine (And.intro (Nat.le_of_ble_eq_true rfl) (And.intro (fun c5 => ?_) (fun c5 => ?_)))
      · exact s92 y hy
      have c5 : ¬ x3 ≤ x5 := c5
      rw [e3, e5, nle (by omega) (by omega)] at c5
      refine kjZ_y rfl rfl 5 _ _ _ _ ty ?_
      refine (Or.inl (And.intro (kdk kg) (And.intro (kdv kg (by rw [e5]; exact vp_in_nI (by omega) (by omega))) (And.intro (fun c6 => ?_) (fun c6 => ?_)))))
      · exact s92 y hy
      refine kjZ_y rfl rfl 6 _ _ _ _ ty ?_
      refine (And.intro (Nat.le_of_ble_eq_true rfl) (And.intro (Nat.le_of_ble_eq_true rfl) ?_))
      exact nxt (a + 1) p _ _ _ _ _ (by omega) hp (by rw [e5]; exact nI_1 a) e6 (Or.inr ⟨a, p, e5, by omega, e6, Nat.le_refl _⟩)
    refine kjZ_y rfl rfl 3 _ _ _ _ ty ?_
    refine And.intro (fun c3 => ?_) (fun c3 => ?_)
    rotate_left
    · refine kjZ_y rfl rfl 2 _ _ _ _ ty ?_
      exact s77 _ (Or.inl (by decide))
    have c3 : x5 < x3 := c3
    rw [e3, e5, nlt (by omega) (by omega)] at c3
    refine kjZ_y rfl rfl 5 _ _ _ _ ty ?_
    refine (Or.inl (And.intro (kdk kg) (And.intro (kdv kg (by rw [e5]; exact vp_in_nI (by omega) (by omega))) (And.intro (fun c4 => ?_) (fun c4 => ?_)))))
    rotate_left
    · refine kjZ_y rfl rfl 2 _ _ _ _ ty ?_
      exact s77 _ (Or.inr ⟨a, e5, ha⟩)
    refine kjZ_y rfl rfl 10 _ _ _ _ ty ?_
    refine (And.intro (ty.k (by decide) rfl) (Exists.intro _ (And.intro b1 (Or.inl (And.intro (kdk b2) (And.intro (kdv b2 (by rw [e6]; exact vp_in_nI (by omega) (by omega))) (And.intro (Nat.le_of_ble_eq_true rfl) (And.intro (Nat.le_of_ble_eq_true rfl) (And.intro (Nat.le_of_ble_eq_true rfl) (kjY_mono ty (fun q_ u1 ty1 xu1 h_ => ?_) (k_fitsOne ty kg hM c3 ht _ _ _ e5 e3)))))))))))
    obtain ⟨rfl, z, rfl, q⟩ := h_
    intro _ _
    exact s77 z q
theorem k_fits (ty : kTY σ) (hw : WRD σ nm) {g M a t : Nat} (kg : σ.2.2.2.1 g = (21, M)) (hM : M ≤ 600000) (ha : a ≤ t) (ht : t ≤ M) (x2 x3 x4 : Int32) (e2 : x2 = nI a) (e3 : x3 = nI t) : kjY kPP (kQQ Y) (d + 3) 84 0 (mjL0 15 [.ref 48, .ref g, .int x2, .int x3, .int x4]) [] σ (yoP σ) := by
  obtain ⟨rb, NB, rs, NS, rc, ⟨b1, b2, b3, b3'⟩, ⟨s1, s2, s3, s4, s5, s5'⟩, a1, a2, a3, a4, a5, a6, a7, a8⟩ := hw
  have no : kjY kPP (kQQ Y) (d + 3) 84 12 (mjL0 15 [.ref 48, .ref g, .int x2, .int x3, .int x4]) [] σ (yoP σ) := by
    refine kjZ_y rfl rfl 2 _ _ _ _ ty ?_
    refine And.intro rfl (And.intro (Or.inr (Or.inl ⟨rfl, Or.inl rfl⟩)) ?_)
    exact ⟨rfl, _, rfl, Or.inl rfl⟩
  refine kjZ_y rfl rfl 2 _ _ _ _ ty ?_
  refine And.intro (fun c => ?_) (fun c => ?_)
  · exact no
  refine kjZ_y rfl rfl 4 _ _ _ _ ty ?_
  refine (Or.inl (And.intro (kdq kg) (And.intro (fun c2 => ?_) (fun c2 => ?_))))
  · exact no
  refine kjZ_y rfl rfl 2 _ _ _ _ ty ?_
  refine And.intro (fun c3 => ?_) (fun c3 => ?_)
  · exact no
  refine kjZ_y rfl rfl 4 _ _ _ _ ty ?_
  refine (And.intro (ty.k (by decide) rfl) (And.intro (fun c4 => ?_) (fun c4 => ?_)))
  rotate_left
  · exact no
  have c4 : x4 < nI nm.length := by have z : x4 < σ.1 48 4 := c4; rw [a2] at z; exact z
  obtain ⟨i, ei, hi⟩ := nat_of (n := nm.length) (by omega) c3 c4
  have v1 : vp_in x4 NS := by rw [ei]; exact vp_in_nI (by omega) (by omega)
  have ei1 : x4 + Int32.ofInt 1 = nI (i + 1) := by rw [ei]; exact nI_1 i
  have v2 : vp_in (x4 + Int32.ofInt 1) NS := by rw [ei1]; exact vp_in_nI (by omega) (by omega)
  have hw1 := List.getElem?_eq_getElem hi
  have q3 := sl_take_s hw1
  have q4 := sl_take_le nm (i + 1)
  have c1 : σ.1 rs x4.toNatClampNeg = nI (sl (nm.take i)) := by rw [ei, nI_clamp (by omega)]; exact a3 i (by omega)
  have c1' : σ.1 rs (x4 + Int32.ofInt 1).toNatClampNeg = nI (sl (nm.take (i + 1))) := by rw [ei1, nI_clamp (by omega)]; exact a3 (i + 1) (by omega)
  refine kjZ_y rfl rfl 34 _ _ _ _ ty ?_
  refine (And.intro (Nat.le_of_ble_eq_true rfl) (And.intro (ty.k (by decide) rfl) (Exists.intro _ (And.intro s1 (Or.inl (And.intro (kdk s2) (And.intro (kdv s2 v1) (And.intro (Nat.le_of_ble_eq_true rfl) (And.intro (ty.k (by decide) rfl) (Exists.intro _ (And.intro s1 (Or.inl (And.intro (kdk s2) (And.intro (kdv s2 v2) (And.intro (Nat.le_of_ble_eq_true rfl) (And.intro (Nat.le_of_ble_eq_true rfl) (And.intro (Nat.le_of_ble_eq_true rfl) (And.intro (Nat.le_of_ble_eq_true rfl) (And.intro (Nat.le_of_ble_eq_true rfl) ?_)))))))))))))))))))
  have hl : sl (nm.take (i + 1)) - sl (nm.take i) ≤ 470000 := by omega
  refine k_fits_l ty kg hM ht b1 b2 (e := sl (nm.take (i + 1))) (by omega) (by omega) x2 x3 x4 _ e3 c1' (m := (sl (nm.take (i + 1)) - sl (nm.take i) + 2) * (t - a + 2)) ?_ _ ?_ _ 0 a (sl (nm.take i)) _ _ _ _ _ _ (Nat.zero_add _) ha (by omega) e2 c1 rfl (Or.inl (by decide))
  · have : (sl (nm.take (i + 1)) - sl (nm.take i) + 2) * (t - a + 2) ≤ 470002 * 600002 := Nat.mul_le_mul (by omega) (by omega)
    omega
  · rw [c1, c1', e2, e3, pk_sub (by omega), pk_sub (by omega), nI_64 (by omega), nI_64 (by omega), show (Int64.ofInt 2) = lN 2 from rfl, lN_add, lN_add, lN_mul]
end KFITS
