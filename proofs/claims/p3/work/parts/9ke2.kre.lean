/-! Handles named anew: the world stays. -/
def rkB (t : Nat × Nat × Nat) : Bool := decide (t.1 = 0) || (decide (t.1 = 1) || (decide (t.1 = 8) || (decide (t.1 = 2) || (((decide (t.1 = 3) || (decide (t.1 = 4) || decide (t.1 = 5))) && decide (¬ t.2.2 = 99)) || (decide (t.1 = 6) || decide (t.1 = 7))))))
theorem rkB_ok {t : Nat × Nat × Nat} (h : rkB t = true) : (t.1 = 0 ∨ t.1 = 1 ∨ t.1 = 8 ∨ t.1 = 2) ∨ ((t.1 = 3 ∨ t.1 = 4 ∨ t.1 = 5) ∧ ¬ t.2.2 = 99) ∨ t.1 = 6 ∨ t.1 = 7 := by
  unfold rkB at h
  simp only [Bool.or_eq_true, Bool.and_eq_true, decide_eq_true_eq] at h
  rcases h with h | h | h | h | h | h | h
  · exact Or.inl (Or.inl h)
  · exact Or.inl (Or.inr (Or.inl h))
  · exact Or.inl (Or.inr (Or.inr (Or.inl h)))
  · exact Or.inl (Or.inr (Or.inr (Or.inr h)))
  · exact Or.inr (Or.inl h)
  · exact Or.inr (Or.inr (Or.inl h))
  · exact Or.inr (Or.inr (Or.inr h))
theorem kT_chk : ((List.range 20).all (fun c => decide (c = 10) || (List.range (kNf c)).all (fun x => rkB (kT (32 * c + x))))) = true := by decide +kernel
theorem kT_rk (c : Nat) (hc : c < 20) (h10 : ¬ c = 10) (x : Nat) (hx : x < kNf c) : ((kT (32 * c + x)).1 = 0 ∨ (kT (32 * c + x)).1 = 1 ∨ (kT (32 * c + x)).1 = 8 ∨ (kT (32 * c + x)).1 = 2) ∨ (((kT (32 * c + x)).1 = 3 ∨ (kT (32 * c + x)).1 = 4 ∨ (kT (32 * c + x)).1 = 5) ∧ ¬ (kT (32 * c + x)).2.2 = 99) ∨ (kT (32 * c + x)).1 = 6 ∨ (kT (32 * c + x)).1 = 7 := by
  have h := List.all_eq_true.mp kT_chk c (List.mem_range.mpr hc)
  rw [Bool.or_eq_true] at h
  rcases h with h | h
  · exact absurd (of_decide_eq_true h) h10
  · exact rkB_ok (List.all_eq_true.mp h x (List.mem_range.mpr hx))
theorem kd_rk : ∀ h, h < 76 → ((kd0 h).1 < 24 ∧ ¬ (kd0 h).1 = 10) ∨ (kd0 h).1 = 25 ∨ (h = 11 ∧ kd0 h = (24, 4)) := by decide +kernel
theorem mjR_re {ad ad' : Nat → Nat} {o : Option Nat} (h : ∀ g, o = some g → ad' g = ad g) : mjR ad' (va_rf o) = mjR ad (va_rf o) := by
  cases o with
  | none => rfl
  | some g => exact congrArg Value.ref (h g rfl)
section KRE
variable {D : va_G} {cl : List vw_C} {dA : Nat → ClassId} {ad ad' : Nat → Nat} {Z : kS} {H : Heap}
theorem kFv_re (ty : kTY Z) (gd : GKd Z) (e1 : ∀ h, h < Z.2.2.2.2.1 → ad' h = ad h) (e2 : ∀ h, 1000000 ≤ h → ad' h = ad h) {h x : Nat} (hh : h < Z.2.2.2.2.1) (hk : (Z.2.2.2.1 h).1 < 20) (hx : x < kNf (Z.2.2.2.1 h).1) : mjR ad' (kFv Z (Z.2.2.2.1 h).1 h x) = mjR ad (kFv Z (Z.2.2.2.1 h).1 h x) := by
  have hr := ty.2.2.2.2.2.2.2.1 h x hk hx
  have h10 : ¬ (Z.2.2.2.1 h).1 = 10 := by
    by_cases c4 : h < 76
    · have ek := ty.2.2.1 h c4
      rcases kd_rk h c4 with y | y | ⟨y0, y⟩
      · rw [ek]; exact y.2
      · rw [ek, y]; decide
      · rw [ek, y]; decide
    · rcases gd h (by omega) hh with y | y | y | y | y <;> (rw [y]; decide)
  have ht := kT_rk _ hk h10 x hx
  have lo : ∀ g, ¬ (Z.2.2.2.1 g).1 = 99 → g < Z.2.2.2.2.1 := fun g hg => Nat.lt_of_not_le (fun y => hg (by rw [ty.2.2.2.2.2.1 g y]))
  unfold kRk at hr
  unfold kFv
  generalize kT (32 * (Z.2.2.2.1 h).1 + x) = t at hr ht ⊢
  obtain ⟨t1, t2, t3⟩ := t
  dsimp only at hr ht ⊢
  rcases ht with (rfl | rfl | rfl | rfl) | ⟨rfl | rfl | rfl, hn⟩ | rfl | rfl
  · rfl
  · rfl
  · rfl
  · rfl
  · refine mjR_re (fun g hg => e1 g (lo g ?_))
    rw [hr.1] at hg; cases hg; rw [hr.2]; exact hn
  · refine mjR_re (fun g hg => e1 g (lo g ?_))
    rw [hr.1] at hg; cases hg; rw [hr.2]; exact hn
  · refine mjR_re (fun g hg => e1 g (lo g ?_))
    obtain ⟨g', r1, r2⟩ := hr
    rw [r1] at hg; cases hg; rw [r2]; exact hn
  · refine mjR_re (fun g hg => e2 g ?_)
    obtain ⟨k, -, rfl⟩ := hr g hg
    omega
  · refine mjR_re (fun g hg => e2 g ?_)
    obtain ⟨k, -, rfl⟩ := hr g hg
    omega
theorem vp_cell_re {k : ClassId} {N : Nat} {f f' : Nat → Option Nat} (h : ∀ j, j < N → f' j = f j) : vp_cell k (N, .inr (.inr (.inr (.inr f')))) = vp_cell k (N, .inr (.inr (.inr (.inr f)))) := by
  show arrV k N (fun j => va_rf (f' j)) = arrV k N (fun j => va_rf (f j))
  have e : (fun j : Fin N => va_rf (f' j.val)) = fun j : Fin N => va_rf (f j.val) := funext fun j => by rw [h j.val j.isLt]
  unfold arrV
  exact congrArg (fun g => ({ cls := k, slots := Array.ofFn g } : Cell)) e
theorem vk_re (ty : kTY Z) (gd : GKd Z) (e1 : ∀ h, h < Z.2.2.2.2.1 → ad' h = ad h) (e2 : ∀ h, 1000000 ≤ h → ad' h = ad h) {h : Nat} (hh : h < Z.2.2.2.2.1) (hP : va_at D cl (ad h, kE dA ad Z h) H) : va_at D cl (ad' h, kE dA ad' Z h) H := by
  rw [e1 h hh]
  have lo : ∀ g, ¬ (Z.2.2.2.1 g).1 = 99 → g < Z.2.2.2.2.1 := fun g hg => Nat.lt_of_not_le (fun y => hg (by rw [ty.2.2.2.2.2.1 g y]))
  by_cases c1 : (Z.2.2.2.1 h).1 < 20
  · have e : kE dA ad' Z h = kE dA ad Z h := by
      unfold kE; rw [if_pos c1, if_pos c1]
      exact congrArg (fun l => Sum.inr ((Z.2.2.2.1 h).1, l)) (List.map_congr_left (fun x hx => kFv_re ty gd e1 e2 hh c1 (List.mem_range.mp hx)))
    rw [e]; exact hP
  · by_cases c2 : (Z.2.2.2.1 h).1 < 23
    · have e : kE dA ad' Z h = kE dA ad Z h := by unfold kE; rw [if_neg c1, if_neg c1, if_pos c2, if_pos c2]
      rw [e]; exact hP
    · by_cases c3 : (Z.2.2.2.1 h).1 = 23
      · have e : kE dA ad' Z h = kE dA ad Z h := by unfold kE; rw [if_neg c1, if_neg c1, if_neg c2, if_neg c2, if_pos c3, if_pos c3]
        rw [e]; exact hP
      · have ea : ∀ b : Nat → Nat, kE dA b Z h = .inl (dA (Z.2.2.2.1 h).1, (Z.2.2.2.1 h).2, .inr (.inr (.inr (.inr (fun j => (Z.2.2.1 h j).map b))))) := fun b => by unfold kE; rw [if_neg c1, if_neg c2, if_neg c3]
        rw [ea] at hP ⊢
        have hP : H[ad h]? = some (vp_cell (dA (Z.2.2.2.1 h).1) ((Z.2.2.2.1 h).2, .inr (.inr (.inr (.inr (fun j => (Z.2.2.1 h j).map ad)))))) := hP
        show H[ad h]? = some (vp_cell (dA (Z.2.2.2.1 h).1) ((Z.2.2.2.1 h).2, .inr (.inr (.inr (.inr (fun j => (Z.2.2.1 h j).map ad'))))))
        rw [hP, vp_cell_re (f' := fun j => (Z.2.2.1 h j).map ad') (f := fun j => (Z.2.2.1 h j).map ad) (fun j hj => ?_)]
        have h25 : (Z.2.2.2.1 h).1 = 25 → (Z.2.2.1 h j).map ad' = (Z.2.2.1 h j).map ad := fun y => by
          cases hg : Z.2.2.1 h j with
          | none => rfl
          | some g =>
            have := ty.2.2.2.2.2.2.2.2.1 h j g y hg
            exact congrArg some (e1 g (lo g (by rw [this]; decide)))
        by_cases c4 : h < 76
        · have ek := ty.2.2.1 h c4
          rcases kd_rk h c4 with y | y | ⟨rfl, y⟩
          · rw [← ek] at y; omega
          · exact h25 (by rw [ek]; exact y)
          · rw [ek, y] at hj
            have hj : j < 4 := hj
            have := ty.2.2.2.2.2.2.2.2.2 j hj
            rw [this]
            exact congrArg some (e1 _ (by have := ty.2.2.2.1; omega))
        · rcases gd h (by omega) hh with y | y | y | y | y
          · omega
          · omega
          · omega
          · omega
          · exact h25 y
theorem kW_re (ty : kTY Z) (gd : GKd Z) (e1 : ∀ h, h < Z.2.2.2.2.1 → ad' h = ad h) (e2 : ∀ h, 1000000 ≤ h → ad' h = ad h) (hP : va_P D cl (kW dA ad Z) H) : va_P D cl (kW dA ad' Z) H := by
  intro k q hq
  have hlt : k < Z.2.2.2.2.1 := by rw [← kW_len (dA := dA) (ad := ad') (σ := Z)]; exact (List.getElem?_eq_some_iff.mp hq).1
  rw [kW_get hlt] at hq
  cases hq
  exact vk_re ty gd e1 e2 hlt (hP k _ (kW_get hlt))
theorem kW_D {A : Nat → Prop} (e1 : ∀ h, h < Z.2.2.2.2.1 → ad' h = ad h) (hD : va_D A (kW dA ad Z)) : va_D A (kW dA ad' Z) := by
  have at' : ∀ (k : Nat) (q : Nat × va_E), (kW dA ad' Z)[k]? = some q → ∃ w, (kW dA ad Z)[k]? = some (q.1, w) := fun k q hq => by
    have hlt : k < Z.2.2.2.2.1 := by rw [← kW_len (dA := dA) (ad := ad') (σ := Z)]; exact (List.getElem?_eq_some_iff.mp hq).1
    rw [kW_get hlt] at hq
    cases hq
    exact ⟨_, by rw [kW_get hlt, e1 k hlt]⟩
  refine ⟨fun i j p q h1 h2 e => ?_, fun k q h => ?_⟩
  · obtain ⟨w1, a1⟩ := at' i p h1
    obtain ⟨w2, a2⟩ := at' j q h2
    exact hD.1 i j _ _ a1 a2 e
  · obtain ⟨w, a⟩ := at' k q h
    exact hD.2 k (q.1, w) a
/-- which cells are of it -/
theorem kW_A {a sz : Nat} : va_A (kW dA ad Z) sz a ↔ (∃ h, h < Z.2.2.2.2.1 ∧ a = ad h) ∨ sz ≤ a := by
  constructor
  · rintro (⟨k, w, hk⟩ | h)
    · have hlt : k < Z.2.2.2.2.1 := by rw [← kW_len (dA := dA) (ad := ad) (σ := Z)]; exact (List.getElem?_eq_some_iff.mp hk).1
      rw [kW_get hlt] at hk
      exact Or.inl ⟨k, hlt, (congrArg Prod.fst (Option.some.inj hk)).symm⟩
    · exact Or.inr h
  · rintro (⟨h, hh, rfl⟩ | h)
    · exact Or.inl ⟨h, _, kW_get hh⟩
    · exact Or.inr h
end KRE
