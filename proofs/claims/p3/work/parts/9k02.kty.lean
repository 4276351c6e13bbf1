/-! What the machine keeps by itself is kept. -/
theorem kT_lt {x : Nat} (h : ¬ (kT x).1 = 9) : x < 384 := by
  apply Decidable.byContradiction
  intro c
  apply h
  unfold kT
  rw [List.getD_eq_getElem?_getD, List.getElem?_eq_none (by rw [show kTs.length = 384 from by decide +kernel]; omega)]; rfl
theorem kT_k : ∀ x, (kT x).2.2 ≤ 25 := by
  intro x
  by_cases c : x < 384
  · have h : ∀ y, y < 384 → (kT y).2.2 ≤ 25 := by decide +kernel
    exact h x c
  · unfold kT
    rw [List.getD_eq_getElem?_getD, List.getElem?_eq_none (by rw [show kTs.length = 384 from by decide +kernel]; omega)]; decide
theorem kDm (x : Nat) : 32 * (x / 32) + x % 32 = x := Nat.div_add_mod x 32
section KTY
variable {σ : kS}
theorem kTY.k (ty : kTY σ) {h c : Nat} (hh : h < 76) (e : (kd0 h).1 = c) : (σ.2.2.2.1 h).1 = c := by rw [ty.2.2.1 h hh]; exact e
theorem kTY.kl (ty : kTY σ) {h : Nat} {c : Nat × Nat} (hh : h < 76) (e : kd0 h = c) : σ.2.2.2.1 h = c := by rw [ty.2.2.1 h hh]; exact e
theorem kTY.lt (ty : kTY σ) {h : Nat} (e : ¬ (σ.2.2.2.1 h).1 = 99) : h < σ.2.2.2.2.1 := by
  apply Decidable.byContradiction
  intro c
  exact e (by rw [ty.2.2.2.2.2.1 h (by omega)])
theorem kEx.k {u : kS} (x : kEx σ u) (ty : kTY σ) {h c : Nat} (e : (σ.2.2.2.1 h).1 = c) (hc : ¬ c = 99) : (u.2.2.2.1 h).1 = c := by
  rw [x.2.1 h (ty.lt (by rw [e]; exact hc))]; exact e
theorem kEx.kl {u : kS} (x : kEx σ u) (ty : kTY σ) {h : Nat} {c : Nat × Nat} (e : σ.2.2.2.1 h = c) (hc : ¬ c.1 = 99) : u.2.2.2.1 h = c := by
  rw [x.2.1 h (ty.lt (by rw [e]; exact hc))]; exact e
theorem kTY_i {a x : Nat} {v : Int32} (ty : kTY σ) (hk : (σ.2.2.2.1 a).1 = x / 32) (h : (kT x).1 = 0 ∨ ((kT x).1 = 1 ∧ (v = 0 ∨ v = 1))) : kTY (mjIu σ.1 a (x % 32) v, σ.2) := by
  have hx : x < 384 := kT_lt (by omega)
  refine ⟨fun g y h1 h2 => ?_, fun g j h1 => ?_, ty.2.2⟩
  · show mjIu σ.1 a (x % 32) v g y = 0 ∨ mjIu σ.1 a (x % 32) v g y = 1
    rw [mjIu_at]
    by_cases c : g = a ∧ y = x % 32
    · rw [if_pos c]
      rcases h with h | h
      · have h2 : (kT (32 * (σ.2.2.2.1 g).1 + y)).1 = 1 := h2
        rw [c.1, c.2, hk, kDm, h] at h2; exact absurd h2 (by decide)
      · exact h.2
    · rw [if_neg c]; exact ty.1 g y h1 h2
  · show (mjIu σ.1 a (x % 32) v g j).toInt8.toInt32 = mjIu σ.1 a (x % 32) v g j
    rw [mjIu_at, if_neg (fun c => by have h1 : (σ.2.2.2.1 g).1 = 21 := h1; rw [c.1, hk] at h1; omega)]
    exact ty.2.1 g j h1
theorem kTY_l {x : Nat → Nat → Int64} (ty : kTY σ) : kTY (σ.1, x, σ.2.2) := ⟨ty.1, ty.2.1, ty.2.2⟩
theorem kTY_a {h j : Nat} {v : Int32} (ty : kTY σ) (hk : (σ.2.2.2.1 h).1 = 20 ∨ ((σ.2.2.2.1 h).1 = 21 ∧ v.toInt8.toInt32 = v)) : kTY (mjIu σ.1 h j v, σ.2) := by
  refine ⟨fun g y h1 h2 => ?_, fun g y h1 => ?_, ty.2.2⟩
  · show mjIu σ.1 h j v g y = 0 ∨ mjIu σ.1 h j v g y = 1
    rw [mjIu_at, if_neg (fun c => by have h1 : (σ.2.2.2.1 g).1 < 20 := h1; rw [c.1] at h1; omega)]
    exact ty.1 g y h1 h2
  · show (mjIu σ.1 h j v g y).toInt8.toInt32 = mjIu σ.1 h j v g y
    rw [mjIu_at]
    by_cases c : g = h ∧ y = j
    · rw [if_pos c]
      have h1 : (σ.2.2.2.1 g).1 = 21 := h1
      rw [c.1] at h1
      rcases hk with k | k
      · omega
      · exact k.2
    · rw [if_neg c]; exact ty.2.1 g y h1
theorem kTY_cpy {s t a b n : Nat} (ty : kTY σ) (h0 : (σ.2.2.2.1 s).1 = (σ.2.2.2.1 t).1) (hk : (σ.2.2.2.1 t).1 = 20 ∨ (σ.2.2.2.1 t).1 = 21) : kTY (kUp σ.1 t (va_cpy (σ.1 s) (σ.1 t) a b n), σ.2) := by
  refine ⟨fun g y h1 h2 => ?_, fun g y h1 => ?_, ty.2.2⟩
  · show kUp σ.1 t (va_cpy (σ.1 s) (σ.1 t) a b n) g y = 0 ∨ kUp σ.1 t (va_cpy (σ.1 s) (σ.1 t) a b n) g y = 1
    rw [kUp_n (fun c => by have h1 : (σ.2.2.2.1 g).1 < 20 := h1; rw [c] at h1; omega)]
    exact ty.1 g y h1 h2
  · show (kUp σ.1 t (va_cpy (σ.1 s) (σ.1 t) a b n) g y).toInt8.toInt32 = kUp σ.1 t (va_cpy (σ.1 s) (σ.1 t) a b n) g y
    by_cases c : g = t
    · subst c
      rw [kUp_s]
      unfold va_cpy
      by_cases c2 : b ≤ y ∧ y < b + n
      · rw [if_pos c2]; exact ty.2.1 s _ (by rw [h0]; exact h1)
      · rw [if_neg c2]; exact ty.2.1 g y h1
    · rw [kUp_n c]; exact ty.2.1 g y h1
theorem kFu_at {a : Nat → Nat → Option Nat} {h i g j : Nat} {v : Option Nat} : kFu a h i v g j = if g = h ∧ j = i then v else a g j := by
  unfold kFu kUp va_up
  by_cases c : g = h
  · subst c
    rw [if_pos rfl]
    by_cases cj : j = i
    · rw [if_pos cj, if_pos ⟨rfl, cj⟩]
    · rw [if_neg cj, if_neg (fun e => cj e.2)]
  · rw [if_neg c, if_neg (fun e => c e.1)]
theorem kRk_eq {u : kS} {h x : Nat} {c : Nat × Nat × Nat} (e : u.2.2.1 h x = σ.2.2.1 h x) (hd : ∀ g t, t ≤ 25 → (σ.2.2.2.1 g).1 = t → (u.2.2.2.1 g).1 = t) (hc : c.2.2 ≤ 25) (k : kRk σ h x c) : kRk u h x c := by
  unfold kRk at k ⊢
  split
  · next e1 => rw [e1] at k; exact ⟨e.trans k.1, hd _ _ hc k.2⟩
  · next e1 => rw [e1] at k; exact ⟨e.trans k.1, hd _ _ hc k.2⟩
  · next e1 => rw [e1] at k; obtain ⟨g, k1, k2⟩ := k; exact ⟨g, e.trans k1, hd _ _ hc k2⟩
  · next e1 => rw [e1] at k; exact fun g hg => k g (e.symm.trans hg)
  · next e1 => rw [e1] at k; exact fun g hg => k g (e.symm.trans hg)
  · trivial
theorem kTY_f {a x : Nat} {o : Option Nat} (ty : kTY σ) (hk : (σ.2.2.2.1 a).1 = x / 32) (h : ((kT x).1 = 5 ∧ ∃ g, o = some g ∧ (σ.2.2.2.1 g).1 = (kT x).2.2) ∨ ((kT x).1 = 6 ∧ ∀ g, o = some g → kCm g) ∨ ((kT x).1 = 7 ∧ ∀ g, o = some g → kSt g)) : kTY (σ.1, σ.2.1, kFu σ.2.2.1 a (x % 32) o, σ.2.2.2) := by
  have hx : x < 384 := kT_lt (by omega)
  refine ⟨ty.1, ty.2.1, ty.2.2.1, ty.2.2.2.1, ty.2.2.2.2.1, ty.2.2.2.2.2.1, ty.2.2.2.2.2.2.1, fun g y h1 h2 => ?_, fun g j g2 h1 h2 => ?_, fun j hj => ?_⟩
  · by_cases c : g = a ∧ y = x % 32
    · have e : (σ.1, σ.2.1, kFu σ.2.2.1 a (x % 32) o, σ.2.2.2).2.2.1 g y = o := by show kFu σ.2.2.1 a (x % 32) o g y = o; rw [kFu_at, if_pos c]
      have e2 : 32 * (σ.2.2.2.1 g).1 + y = x := by rw [c.1, c.2, hk, kDm]
      show kRk _ g y (kT (32 * (σ.2.2.2.1 g).1 + y))
      rw [e2]
      unfold kRk
      rcases h with ⟨h, g3, h3, h4⟩ | ⟨h, h3⟩ | ⟨h, h3⟩
      · rw [h]; exact ⟨g3, e.trans h3, h4⟩
      · rw [h]; exact fun g4 h4 => h3 g4 (e.symm.trans h4)
      · rw [h]; exact fun g4 h4 => h3 g4 (e.symm.trans h4)
    · exact kRk_eq (σ := σ) (by show kFu σ.2.2.1 a (x % 32) o g y = _; rw [kFu_at, if_neg c]) (fun _ _ _ z => z) (kT_k _) (ty.2.2.2.2.2.2.2.1 g y h1 h2)
  · have h2 : kFu σ.2.2.1 a (x % 32) o g j = some g2 := h2
    rw [kFu_at, if_neg (fun c => by have h1 : (σ.2.2.2.1 g).1 = 25 := h1; rw [c.1, hk] at h1; omega)] at h2
    exact ty.2.2.2.2.2.2.2.2.1 g j g2 h1 h2
  · show kFu σ.2.2.1 a (x % 32) o 11 j = _
    rw [kFu_at, if_neg (fun c => by have := ty.k (h := 11) (by decide) (c := 24) rfl; rw [c.1, hk] at this; omega)]
    exact ty.2.2.2.2.2.2.2.2.2 j hj
theorem kTY_as {h j g : Nat} (ty : kTY σ) (h1 : (σ.2.2.2.1 h).1 = 25) (h2 : (σ.2.2.2.1 g).1 = 11) : kTY (σ.1, σ.2.1, kFu σ.2.2.1 h j (some g), σ.2.2.2) := by
  refine ⟨ty.1, ty.2.1, ty.2.2.1, ty.2.2.2.1, ty.2.2.2.2.1, ty.2.2.2.2.2.1, ty.2.2.2.2.2.2.1, fun b y k1 k2 => ?_, fun b i g2 k1 k2 => ?_, fun i hi => ?_⟩
  · exact kRk_eq (σ := σ) (by show kFu σ.2.2.1 h j (some g) b y = _; rw [kFu_at, if_neg (fun c => by have k1 : (σ.2.2.2.1 b).1 < 20 := k1; rw [c.1] at k1; omega)]) (fun _ _ _ z => z) (kT_k _) (ty.2.2.2.2.2.2.2.1 b y k1 k2)
  · have k2 : kFu σ.2.2.1 h j (some g) b i = some g2 := k2
    rw [kFu_at] at k2
    by_cases c : b = h ∧ i = j
    · rw [if_pos c] at k2; cases k2; exact h2
    · rw [if_neg c] at k2; exact ty.2.2.2.2.2.2.2.2.1 b i g2 k1 k2
  · show kFu σ.2.2.1 h j (some g) 11 i = _
    rw [kFu_at, if_neg (fun c => by have := ty.k (h := 11) (by decide) (c := 24) rfl; rw [c.1, h1] at this; omega)]
    exact ty.2.2.2.2.2.2.2.2.2 i hi
theorem kNew_d (ty : kTY σ) {k N : Nat} : ∀ g t, t ≤ 25 → (σ.2.2.2.1 g).1 = t → (kUp σ.2.2.2.1 σ.2.2.2.2.1 (k, N) g).1 = t := by
  intro g t ht e
  rw [kUp_n (fun c => by have := ty.lt (h := g) (by omega); omega)]; exact e
theorem kTY_new {k N : Nat} (ty : kTY σ) (hk : k = 20 ∨ k = 21 ∨ k = 23 ∨ k = 25) (hN : N < 2 ^ 31) (hc : 1 ≤ σ.2.2.2.2.2.1) : kTY (kNew σ k N) := by
  have t4 := ty.2.2.2.1
  have t5 := ty.2.2.2.2.1
  have dn : ∀ g, ¬ g = σ.2.2.2.2.1 → (kNew σ k N).2.2.2.1 g = σ.2.2.2.1 g := fun g c => kUp_n c
  have ds : (kNew σ k N).2.2.2.1 σ.2.2.2.2.1 = (k, N) := kUp_s
  refine ⟨fun g y h1 h2 => ?_, fun g j h1 => ?_, fun g hg => ?_, ?_, ?_, fun g hg => ?_, fun g => ?_, fun g y h1 h2 => ?_, fun g j g2 h1 h2 => ?_, fun j hj => ?_⟩
  · by_cases c : g = σ.2.2.2.2.1
    · exfalso; rw [c, ds] at h1; have h1 : k < 20 := h1; omega
    · rw [dn g c] at h1 h2
      show kUp σ.1 σ.2.2.2.2.1 (fun _ => 0) g y = 0 ∨ kUp σ.1 σ.2.2.2.2.1 (fun _ => 0) g y = 1
      rw [kUp_n c]; exact ty.1 g y h1 h2
  · show (kUp σ.1 σ.2.2.2.2.1 (fun _ => 0) g j).toInt8.toInt32 = kUp σ.1 σ.2.2.2.2.1 (fun _ => 0) g j
    by_cases c : g = σ.2.2.2.2.1
    · rw [c, kUp_s]; decide
    · rw [kUp_n c]; rw [dn g c] at h1; exact ty.2.1 g j h1
  · rw [dn g (by omega)]; exact ty.2.2.1 g hg
  · show 76 ≤ σ.2.2.2.2.1 + 1; omega
  · show σ.2.2.2.2.1 + 1 + (σ.2.2.2.2.2.1 - 1) < 1000000; omega
  · have hg : σ.2.2.2.2.1 + 1 ≤ g := hg
    rw [dn g (by omega)]; exact ty.2.2.2.2.2.1 g (by omega)
  · by_cases c : g = σ.2.2.2.2.1
    · rw [c, ds]; exact hN
    · rw [dn g c]; exact ty.2.2.2.2.2.2.1 g
  · by_cases c : g = σ.2.2.2.2.1
    · exfalso; rw [c, ds] at h1; have h1 : k < 20 := h1; omega
    · rw [dn g c] at h1 h2 ⊢
      exact kRk_eq (σ := σ) (by show kUp σ.2.2.1 σ.2.2.2.2.1 (fun _ => none) g y = _; rw [kUp_n c]) (kNew_d ty) (kT_k _) (ty.2.2.2.2.2.2.2.1 g y h1 h2)
  · by_cases c : g = σ.2.2.2.2.1
    · have h2 : kUp σ.2.2.1 σ.2.2.2.2.1 (fun _ => none) g j = some g2 := h2
      rw [c, kUp_s] at h2; cases h2
    · have h2 : kUp σ.2.2.1 σ.2.2.2.2.1 (fun _ => none) g j = some g2 := h2
      rw [kUp_n c] at h2; rw [dn g c] at h1
      exact kNew_d ty _ _ (by decide) (ty.2.2.2.2.2.2.2.2.1 g j g2 h1 h2)
  · show kUp σ.2.2.1 σ.2.2.2.2.1 (fun _ => none) 11 j = _
    rw [kUp_n (by omega)]; exact ty.2.2.2.2.2.2.2.2.2 j hj
theorem kNew_ex {k N : Nat} (hc : 1 ≤ σ.2.2.2.2.2.1) : kEx σ (kNew σ k N) :=
  ⟨Nat.le_succ _, fun h hh => kUp_n (by omega), by show σ.2.2.2.2.1 + 1 + (σ.2.2.2.2.2.1 - 1) = _; omega, Nat.sub_le _ _⟩
theorem kTY_val (ty : kTY σ) (hc : 1 ≤ σ.2.2.2.2.2.1) : kTY (kVal σ) := by
  have t4 := ty.2.2.2.1
  have t5 := ty.2.2.2.2.1
  have dn : ∀ g, ¬ g = σ.2.2.2.2.1 → (kVal σ).2.2.2.1 g = σ.2.2.2.1 g := fun g c => kUp_n c
  have ds : (kVal σ).2.2.2.1 σ.2.2.2.2.1 = (11, 0) := kUp_s
  refine ⟨fun g y h1 h2 => ?_, fun g j h1 => ?_, fun g hg => ?_, ?_, ?_, fun g hg => ?_, fun g => ?_, fun g y h1 h2 => ?_, fun g j g2 h1 h2 => ?_, fun j hj => ?_⟩
  · show kUp σ.1 σ.2.2.2.2.1 (fun _ => 0) g y = 0 ∨ kUp σ.1 σ.2.2.2.2.1 (fun _ => 0) g y = 1
    by_cases c : g = σ.2.2.2.2.1
    · rw [c, kUp_s]; exact Or.inl rfl
    · rw [dn g c] at h1 h2
      rw [kUp_n c]; exact ty.1 g y h1 h2
  · show (kUp σ.1 σ.2.2.2.2.1 (fun _ => 0) g j).toInt8.toInt32 = kUp σ.1 σ.2.2.2.2.1 (fun _ => 0) g j
    by_cases c : g = σ.2.2.2.2.1
    · rw [c, kUp_s]; decide
    · rw [kUp_n c]; rw [dn g c] at h1; exact ty.2.1 g j h1
  · rw [dn g (by omega)]; exact ty.2.2.1 g hg
  · show 76 ≤ σ.2.2.2.2.1 + 1; omega
  · show σ.2.2.2.2.1 + 1 + (σ.2.2.2.2.2.1 - 1) < 1000000; omega
  · have hg : σ.2.2.2.2.1 + 1 ≤ g := hg
    rw [dn g (by omega)]; exact ty.2.2.2.2.2.1 g (by omega)
  · by_cases c : g = σ.2.2.2.2.1
    · rw [c, ds]; decide
    · rw [dn g c]; exact ty.2.2.2.2.2.2.1 g
  · by_cases c : g = σ.2.2.2.2.1
    · rw [c, ds] at h2 ⊢
      have h2 : y < 9 := h2
      have e : ∀ y, y < 9 → ¬ y = 0 → ¬ (kT (32 * 11 + y)).1 = 3 ∧ ¬ (kT (32 * 11 + y)).1 = 4 ∧ ¬ (kT (32 * 11 + y)).1 = 5 ∧ ¬ (kT (32 * 11 + y)).1 = 6 ∧ ¬ (kT (32 * 11 + y)).1 = 7 := by decide +kernel
      by_cases c0 : y = 0
      · subst c0
        refine ⟨?_, ?_⟩
        · show kUp σ.2.2.1 σ.2.2.2.2.1 (va_up (fun _ => none) 0 (some 59)) σ.2.2.2.2.1 0 = some 59
          rw [kUp_s]; rfl
        · show ((kVal σ).2.2.2.1 59).1 = 4
          rw [dn 59 (by omega)]; exact ty.k (by decide) rfl
      · unfold kRk
        obtain ⟨e3, e4, e5, e6, e7⟩ := e y h2 c0
        split
        · next q => exact absurd q e3
        · next q => exact absurd q e4
        · next q => exact absurd q e5
        · next q => exact absurd q e6
        · next q => exact absurd q e7
        · trivial
    · rw [dn g c] at h1 h2 ⊢
      exact kRk_eq (σ := σ) (by show kUp σ.2.2.1 σ.2.2.2.2.1 _ g y = _; rw [kUp_n c]) (kNew_d ty) (kT_k _) (ty.2.2.2.2.2.2.2.1 g y h1 h2)
  · by_cases c : g = σ.2.2.2.2.1
    · rw [c, ds] at h1; exact absurd h1 (by decide)
    · have h2 : kUp σ.2.2.1 σ.2.2.2.2.1 (va_up (fun _ => none) 0 (some 59)) g j = some g2 := h2
      rw [kUp_n c] at h2; rw [dn g c] at h1
      exact kNew_d ty _ _ (by decide) (ty.2.2.2.2.2.2.2.2.1 g j g2 h1 h2)
  · show kUp σ.2.2.1 σ.2.2.2.2.1 (va_up (fun _ => none) 0 (some 59)) 11 j = _
    rw [kUp_n (by omega)]; exact ty.2.2.2.2.2.2.2.2.2 j hj
theorem kVal_ex (hc : 1 ≤ σ.2.2.2.2.2.1) : kEx σ (kVal σ) :=
  ⟨Nat.le_succ _, fun h hh => kUp_n (by omega), by show σ.2.2.2.2.1 + 1 + (σ.2.2.2.2.2.1 - 1) = _; omega, Nat.sub_le _ _⟩
/-- what is later with the same things -/
theorem kEx_i {a : Nat → Nat → Int32} : kEx σ (a, σ.2) := ⟨Nat.le_refl _, fun _ _ => rfl, rfl, Nat.le_refl _⟩
theorem kEx_l {a : Nat → Nat → Int64} : kEx σ (σ.1, a, σ.2.2) := ⟨Nat.le_refl _, fun _ _ => rfl, rfl, Nat.le_refl _⟩
theorem kEx_f {a : Nat → Nat → Option Nat} : kEx σ (σ.1, σ.2.1, a, σ.2.2.2) := ⟨Nat.le_refl _, fun _ _ => rfl, rfl, Nat.le_refl _⟩
end KTY
