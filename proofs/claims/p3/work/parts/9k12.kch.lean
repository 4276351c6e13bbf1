/-! Which rows are owned by which fields; what has changed; what room is paid ahead. -/
def OWb : List Nat := [1, 3, 5, 7, 9, 13, 15, 17, 22, 24, 26, 31, 33, 35, 40, 42, 44, 57, 68, 72]
def OWr : List (Nat × Nat) := [(48, 0), (48, 1), (48, 2), (59, 3), (59, 4), (59, 5), (71, 4)]
def OWs : List (Nat × Nat) := OWb.map (fun b => (b, 1)) ++ (OWr ++ [(59, 7), (59, 8), (59, 10), (59, 11), (48, 3), (53, 1), (53, 2), (12, 8), (12, 10), (21, 8), (21, 10), (30, 8), (30, 10), (39, 8), (39, 10)])
def OWN (σ : kS) : Prop := ∀ p ∈ OWs, ∀ q ∈ OWs, σ.2.2.1 p.1 p.2 = σ.2.2.1 q.1 q.2 → p = q
/-- what has changed at the most: fields, and rows by their owners; vs: values too -/
def Ch (vs : Bool) (fs os : List (Nat × Nat)) (σ u : kS) : Prop :=
  kEx σ u ∧ (∀ h x, (σ.2.2.2.1 h).1 < 20 → (vs = true → ¬ (σ.2.2.2.1 h).1 = 11) → (h, x) ∉ fs → u.1 h x = σ.1 h x ∧ u.2.1 h x = σ.2.1 h x ∧ u.2.2.1 h x = σ.2.2.1 h x) ∧
  (∀ g, 20 ≤ (σ.2.2.2.1 g).1 → (σ.2.2.2.1 g).1 ≤ 25 → (∀ p ∈ os, ¬ σ.2.2.1 p.1 p.2 = some g) → u.1 g = σ.1 g ∧ u.2.1 g = σ.2.1 g ∧ u.2.2.1 g = σ.2.2.1 g) ∧
  (∀ p ∈ OWs, ∀ g, u.2.2.1 p.1 p.2 = some g → u.2.2.1 p.1 p.2 = σ.2.2.1 p.1 p.2 ∨ σ.2.2.2.2.1 ≤ g ∨ ∃ q ∈ os, σ.2.2.1 q.1 q.2 = some g)
theorem Ch.rf {vs : Bool} {fs os : List (Nat × Nat)} {σ : kS} : Ch vs fs os σ σ := ⟨kEx.rf, fun _ _ _ _ _ => ⟨rfl, rfl, rfl⟩, fun _ _ _ _ => ⟨rfl, rfl, rfl⟩, fun _ _ _ _ => Or.inl rfl⟩
theorem Ch.tr {vs : Bool} {fs os : List (Nat × Nat)} {σ u v : kS} (ty : kTY σ) (ho : ∀ p ∈ os, p ∈ OWs) (a : Ch vs fs os σ u) (b : Ch vs fs os u v) : Ch vs fs os σ v := by
  obtain ⟨a1, a2, a3, a4⟩ := a
  obtain ⟨b1, b2, b3, b4⟩ := b
  refine ⟨a1.tr b1, fun h x h1 h2 h3 => ?_, fun g h1 h2 h3 => ?_, fun p hp g hg => ?_⟩
  · have e : u.2.2.2.1 h = σ.2.2.2.1 h := a1.2.1 h (ty.lt (by omega))
    obtain ⟨p1, p2, p3⟩ := a2 h x h1 h2 h3
    obtain ⟨q1, q2, q3⟩ := b2 h x (by rw [e]; exact h1) (by rw [e]; exact h2) h3
    exact ⟨q1.trans p1, q2.trans p2, q3.trans p3⟩
  · have hl := ty.lt (h := g) (by omega)
    have e : u.2.2.2.1 g = σ.2.2.2.1 g := a1.2.1 g hl
    obtain ⟨p1, p2, p3⟩ := a3 g h1 h2 h3
    obtain ⟨q1, q2, q3⟩ := b3 g (by rw [e]; exact h1) (by rw [e]; exact h2) (fun p hp c => by
      rcases a4 p (ho p hp) g c with z | z | ⟨q, hq, z⟩
      · exact h3 p hp (z.symm.trans c)
      · omega
      · exact h3 q hq z)
    exact ⟨q1.trans p1, q2.trans p2, q3.trans p3⟩
  · rcases b4 p hp g hg with z | z | ⟨q, hq, z⟩
    · rcases a4 p hp g (z.symm.trans hg) with y | y | y
      · exact Or.inl (z.trans y)
      · exact Or.inr (Or.inl y)
      · exact Or.inr (Or.inr y)
    · exact Or.inr (Or.inl (Nat.le_trans a1.1 z))
    · rcases a4 q (ho q hq) g z with y | y | y
      · exact Or.inr (Or.inr ⟨q, hq, y.symm.trans z⟩)
      · exact Or.inr (Or.inl y)
      · exact Or.inr (Or.inr y)
theorem Ch.up {vs vs' : Bool} {fs os fs' os' : List (Nat × Nat)} {σ u : kS} (a : Ch vs fs os σ u) (hv : vs = true → vs' = true) (hf : ∀ p ∈ fs, p ∈ fs') (ho : ∀ p ∈ os, p ∈ os') : Ch vs' fs' os' σ u := by
  obtain ⟨a1, a2, a3, a4⟩ := a
  refine ⟨a1, fun h x h1 h2 h3 => a2 h x h1 (fun q => h2 (hv q)) (fun q => h3 (hf _ q)), fun g h1 h2 h3 => a3 g h1 h2 (fun p hp => h3 p (ho p hp)), fun p hp g hg => ?_⟩
  rcases a4 p hp g hg with z | z | ⟨q, hq, z⟩
  · exact Or.inl z
  · exact Or.inr (Or.inl z)
  · exact Or.inr (Or.inr ⟨q, ho q hq, z⟩)
section KCH
variable {σ : kS} {vs : Bool}
theorem Ch_i {a x : Nat} {v : Int32} (h : (σ.2.2.2.1 a).1 < 20) : Ch vs [(a, x)] [] σ (mjIu σ.1 a x v, σ.2) := by
  refine ⟨kEx_i, fun g y h1 h2 h3 => ⟨?_, rfl, rfl⟩, fun g h1 h2 h3 => ⟨?_, rfl, rfl⟩, fun _ _ _ _ => Or.inl rfl⟩
  · show mjIu σ.1 a x v g y = _
    rw [mjIu_at, if_neg (fun c => h3 (by rw [c.1, c.2]; exact List.mem_singleton.mpr rfl))]
  · exact mjIu_n (fun c => by rw [c] at h1; omega)
theorem Ch_l {a x : Nat} {v : Int64} (h : (σ.2.2.2.1 a).1 < 20) : Ch vs [(a, x)] [] σ (σ.1, mjLu σ.2.1 a x v, σ.2.2) := by
  refine ⟨kEx_l, fun g y h1 h2 h3 => ⟨rfl, ?_, rfl⟩, fun g h1 h2 h3 => ⟨rfl, ?_, rfl⟩, fun _ _ _ _ => Or.inl rfl⟩
  · show mjLu σ.2.1 a x v g y = _
    rw [mjLu_at, if_neg (fun c => h3 (by rw [c.1, c.2]; exact List.mem_singleton.mpr rfl))]
  · exact mjLu_n (fun c => by rw [c] at h1; omega)
theorem Ch_f {a x : Nat} {o : Option Nat} {os : List (Nat × Nat)} (h : (σ.2.2.2.1 a).1 < 20) (ho : (a, x) ∈ OWs → ∀ g, o = some g → σ.2.2.2.2.1 ≤ g ∨ ∃ q ∈ os, σ.2.2.1 q.1 q.2 = some g) : Ch vs [(a, x)] os σ (σ.1, σ.2.1, kFu σ.2.2.1 a x o, σ.2.2.2) := by
  refine ⟨kEx_f, fun g y h1 h2 h3 => ⟨rfl, rfl, ?_⟩, fun g h1 h2 h3 => ⟨rfl, rfl, ?_⟩, fun p hp g hg => ?_⟩
  · show kFu σ.2.2.1 a x o g y = _
    rw [kFu_at, if_neg (fun c => h3 (by rw [c.1, c.2]; exact List.mem_singleton.mpr rfl))]
  · exact kFu_n (fun c => by rw [c] at h1; omega)
  · have hg : kFu σ.2.2.1 a x o p.1 p.2 = some g := hg
    show kFu σ.2.2.1 a x o p.1 p.2 = _ ∨ _
    rw [kFu_at] at hg ⊢
    by_cases c : p.1 = a ∧ p.2 = x
    · rw [if_pos c] at hg
      exact Or.inr (ho (by rw [← c.1, ← c.2]; exact hp) g hg)
    · rw [if_neg c]; exact Or.inl rfl
/-- a row is written -/
theorem Ch_ra {g : Nat} {p : Nat × Nat} {f : Nat → Int32} (hp : σ.2.2.1 p.1 p.2 = some g) (hk : 20 ≤ (σ.2.2.2.1 g).1) : Ch vs [] [p] σ (kUp σ.1 g f, σ.2) := by
  refine ⟨kEx_i, fun b y h1 h2 h3 => ⟨?_, rfl, rfl⟩, fun b h1 h2 h3 => ⟨?_, rfl, rfl⟩, fun _ _ _ _ => Or.inl rfl⟩
  · show kUp σ.1 g f b y = _
    rw [kUp_n (fun c => by rw [c] at h1; omega)]
  · exact kUp_n (fun c => h3 p (List.mem_singleton.mpr rfl) (by rw [c]; exact hp))
theorem Ch_rl {g : Nat} {p : Nat × Nat} {f : Nat → Int64} (hp : σ.2.2.1 p.1 p.2 = some g) (hk : 20 ≤ (σ.2.2.2.1 g).1) : Ch vs [] [p] σ (σ.1, kUp σ.2.1 g f, σ.2.2) := by
  refine ⟨kEx_l, fun b y h1 h2 h3 => ⟨rfl, ?_, rfl⟩, fun b h1 h2 h3 => ⟨rfl, ?_, rfl⟩, fun _ _ _ _ => Or.inl rfl⟩
  · show kUp σ.2.1 g f b y = _
    rw [kUp_n (fun c => by rw [c] at h1; omega)]
  · exact kUp_n (fun c => h3 p (List.mem_singleton.mpr rfl) (by rw [c]; exact hp))
theorem Ch_new {k N : Nat} (ty : kTY σ) (hc : 1 ≤ σ.2.2.2.2.2.1) : Ch vs [] [] σ (kNew σ k N) := by
  refine ⟨kNew_ex hc, fun b y h1 h2 h3 => ?_, fun b h1 h2 h3 => ?_, fun p hp g hg => ?_⟩
  · have hl := ty.lt (h := b) (by omega)
    refine ⟨?_, ?_, ?_⟩
    · show kUp σ.1 _ _ b y = _; rw [kUp_n (by omega)]
    · show kUp σ.2.1 _ _ b y = _; rw [kUp_n (by omega)]
    · show kUp σ.2.2.1 _ _ b y = _; rw [kUp_n (by omega)]
  · have hl := ty.lt (h := b) (by omega)
    exact ⟨kUp_n (by omega), kUp_n (by omega), kUp_n (by omega)⟩
  · left
    have hl : p.1 < 76 := by
      have h : ∀ p ∈ OWs, p.1 < 76 := by decide
      exact h p hp
    have := ty.2.2.2.1
    show kUp σ.2.2.1 _ _ p.1 p.2 = _; rw [kUp_n (by omega)]
theorem mjIu_up {f : Nat → Nat → Int32} {h j : Nat} {v : Int32} : mjIu f h j v = kUp f h (upd (f h) j v) := by
  funext g; unfold mjIu kUp; rfl
/-- an owned row is there -/
def okd (p : Nat × Nat) : Nat := (kT (32 * (kd0 p.1).1 + p.2)).2.2
theorem ow_some (ty : kTY σ) {p : Nat × Nat} (hp : p ∈ OWs) : ∃ g, σ.2.2.1 p.1 p.2 = some g ∧ (σ.2.2.2.1 g).1 = okd p ∧ g < σ.2.2.2.2.1 := by
  have h : ∀ p ∈ OWs, p.1 < 76 ∧ (kd0 p.1).1 < 20 ∧ p.2 < kNf (kd0 p.1).1 ∧ (okd p ≤ 25) ∧ ((kT (32 * (kd0 p.1).1 + p.2)).1 = 3 ∨ (kT (32 * (kd0 p.1).1 + p.2)).1 = 4 ∨ (kT (32 * (kd0 p.1).1 + p.2)).1 = 5) := by decide +kernel
  obtain ⟨h1, h2, h3, h5, h4⟩ := h p hp
  have e := ty.2.2.1 p.1 h1
  have k := ty.2.2.2.2.2.2.2.1 p.1 p.2 (by rw [e]; exact h2) (by rw [e]; exact h3)
  rw [e] at k
  unfold kRk at k
  rcases h4 with h4 | h4 | h4
  · rw [h4] at k; exact ⟨_, k.1, k.2, ty.lt (by rw [k.2]; unfold okd at h5; omega)⟩
  · rw [h4] at k; exact ⟨_, k.1, k.2, ty.lt (by rw [k.2]; unfold okd at h5; omega)⟩
  · rw [h4] at k; obtain ⟨g, k1, k2⟩ := k; exact ⟨g, k1, k2, ty.lt (by rw [k2]; unfold okd at h5; omega)⟩
/-- owners stay apart -/
theorem OWN.same {u : kS} (h : OWN σ) (e : ∀ p ∈ OWs, u.2.2.1 p.1 p.2 = σ.2.2.1 p.1 p.2) : OWN u := fun p hp q hq c => h p hp q hq (by rw [← e p hp, ← e q hq]; exact c)
theorem OWN.new {u : kS} {p0 : Nat × Nat} {g0 : Nat} (ty : kTY σ) (h : OWN σ) (e : ∀ p ∈ OWs, ¬ p = p0 → u.2.2.1 p.1 p.2 = σ.2.2.1 p.1 p.2) (e0 : u.2.2.1 p0.1 p0.2 = some g0) (hg : σ.2.2.2.2.1 ≤ g0) : OWN u := by
  have ne : ∀ p ∈ OWs, ¬ p = p0 → ¬ u.2.2.1 p.1 p.2 = some g0 := fun p hp c c2 => by
    rw [e p hp c] at c2
    obtain ⟨g, h1, -, h3⟩ := ow_some ty hp
    rw [h1] at c2; cases c2; omega
  intro p hp q hq c
  by_cases cp : p = p0
  · by_cases cq : q = p0
    · rw [cp, cq]
    · exact absurd (by rw [← c, cp]; exact e0) (ne q hq cq)
  · by_cases cq : q = p0
    · exact absurd (by rw [c, cq]; exact e0) (ne p hp cp)
    · exact h p hp q hq (by rw [← e p hp cp, ← e q hq cq]; exact c)
end KCH
