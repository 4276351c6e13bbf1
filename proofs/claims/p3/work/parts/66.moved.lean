/-! moved: bytes go over to the other heap. What tidy has done so far. -/
section MOVED
variable {Y : Nat → MethodName × ByteArray} {d : Nat}
set_option maxRecDepth 100000 in
theorem c_moved_loop (K : mjK) (a n p : Nat) (ha : a + n ≤ 300000) (hp : p + n ≤ 200000) (S H0 : Nat → Int32) : ∀ (j k : Nat) (σ : mjS) (x : Int32), x = nI k → k + j = n → mjTY σ → σ.2.2.1 r_heap = S → σ.2.2.1 r_heap2 = va_cpy S H0 a p k →
    (∀ u, mjTY u → Fr [] [r_heap2] σ u → u.2.2.1 r_heap2 = va_cpy S H0 a p n → K (some (.int (nI p))) u) → mjY mjPP (mjQQ Y) d 4 2 [some (.ref 0), some (.int (nI a)), some (.int (nI n)), some (.int (nI p)), some (.int x)] [] σ K := by
  intro j
  induction j with
  | zero =>
    intro k σ x ex hk ty eS eH hK
    have ek : k = n := by omega
    subst ek; subst ex
    refine mjZ_y rfl rfl 5 _ _ _ _ ty ?_
    exact And.intro (fun _ => And.intro rfl (And.intro (Or.inl rfl) (hK σ ty Fr.rf eH))) (fun c => absurd (show nI k ≤ nI k from nI_le (Nat.le_refl _) (by omega)) c)
  | succ j ih =>
    intro k σ x ex hk ty eS eH hK
    have i1 : (nI a + x).toNatClampNeg = a + k := by rw [ex, nI_add]; exact nI_clamp (by omega)
    have i2 : (nI p + x).toNatClampNeg = p + k := by rw [ex, nI_add]; exact nI_clamp (by omega)
    refine mjZ_y rfl rfl 17 _ _ _ _ ty ?_
    refine And.intro (fun c => absurd (show nI n ≤ x from c) (by rw [ex]; exact nI_ge (by omega) (by omega))) (fun _ => ?_)
    refine And.intro rfl (And.intro rfl (And.intro (Or.inl rfl) (And.intro ?_ (And.intro (Or.inl ⟨rfl, ty.2.1 r_heap _ rfl⟩) (And.intro ?_ (fun ty1 => ?_))))))
    · show vp_in (nI a + x) 300000
      rw [ex, nI_add]; exact vp_in_nI (by omega) (by omega)
    · show vp_in (nI p + x) 200000
      rw [ex, nI_add]; exact vp_in_nI (by omega) (by omega)
    · refine ih (k + 1) _ _ (by rw [ex]; exact nI_1 k) (by omega) ty1 ?_ ?_ (fun u tu fu pu => hK u tu ((Fr.a (by decide)).tr fu) pu)
      · exact (mjIu_ne (a := σ.2.2.1) (i := (nI p + x).toNatClampNeg) (v := σ.2.2.1 r_heap (nI a + x).toNatClampNeg) (h := r_heap2) (g := r_heap) (by decide)).trans eS
      · show mjIu σ.2.2.1 r_heap2 (nI p + x).toNatClampNeg (σ.2.2.1 r_heap (nI a + x).toNatClampNeg) r_heap2 = _
        rw [mjIu_self, i1, i2, eS, eH, cpy_s]
set_option maxRecDepth 100000 in
theorem c_moved (a n p : Nat) (ha : a + n ≤ 300000) (hp : p + n ≤ 200000) (σ : mjS) (ty : mjTY σ) : mjY mjPP (mjQQ Y) d 4 0 (mjL0 5 [.ref 0, .int (nI a), .int (nI n), .int (nI p)]) [] σ (fun r u => r = some (.int (nI p)) ∧ Fr [] [r_heap2] σ u ∧ u.2.2.1 r_heap2 = va_cpy (σ.2.2.1 r_heap) (σ.2.2.1 r_heap2) a p n) := by
  refine mjZ_y rfl rfl 2 _ _ _ _ ty ?_
  refine And.intro (Nat.le_of_ble_eq_true rfl) ?_
  exact c_moved_loop _ a n p ha hp (σ.2.2.1 r_heap) (σ.2.2.1 r_heap2) n 0 σ _ rfl (by omega) ty rfl cpy_0.symm (fun u1 ty1 f1 e1 => ⟨rfl, f1, e1⟩)
/-- a word's place: the row of where, the row of how long, the number, the word -/
abbrev CE : Type := Nat × Nat × Nat × List Int32
def ceK (c : CE) : Nat × Nat := (c.1, c.2.2.1)
def ceN (l : List CE) : Nat := match l with
  | [] => 0
  | c :: r => c.2.2.2.length + ceN r
theorem ceN_app (a b : List CE) : ceN (a ++ b) = ceN a + ceN b := by
  induction a with
  | nil => exact (Nat.zero_add _).symm
  | cons c r ih => show c.2.2.2.length + ceN (r ++ b) = c.2.2.2.length + ceN r + ceN b; omega
abbrev tdH : List Nat := [r_heap2, r_kAt, r_tAt, r_eAt, r_vAt]
abbrev atH : List Nat := [r_kAt, r_tAt, r_eAt, r_vAt]
def RG2 (σ : mjS) (p : Nat) (c : CE) : Prop := ∃ a : Nat, σ.2.2.1 c.1 c.2.2.1 = nI a ∧ a + c.2.2.2.length ≤ p ∧ wd (σ.2.2.1 r_heap2) a c.2.2.2.length = c.2.2.2
def TI (s0 σ : mjS) (p : Nat) (D : List CE) : Prop := Fr [] tdH s0 σ ∧ (∀ g i, g ≠ r_heap2 → (g, i) ∉ D.map ceK → σ.2.2.1 g i = s0.2.2.1 g i) ∧ (∀ c ∈ D, RG2 σ p c) ∧ p = ceN D ∧ ∀ c ∈ D, c.1 ∈ atH
theorem TI.step {s0 σ u : mjS} {p : Nat} {D : List CE} {c : CE} {a : Nat} (h : TI s0 σ p D) (hc : c.1 ∈ atH) (hn : ceK c ∉ D.map ceK) (hw : wd (σ.2.2.1 r_heap) a c.2.2.2.length = c.2.2.2) (fu : Fr [] tdH σ u) (hu : ∀ g i, g ≠ r_heap2 → u.2.2.1 g i = if g = c.1 ∧ i = c.2.2.1 then nI p else σ.2.2.1 g i) (h2 : u.2.2.1 r_heap2 = va_cpy (σ.2.2.1 r_heap) (σ.2.2.1 r_heap2) a p c.2.2.2.length) : TI s0 u (p + c.2.2.2.length) (D ++ [c]) := by
  obtain ⟨h1, h3, h4, h5, h7⟩ := h
  have at2 : ∀ g ∈ atH, g ≠ r_heap2 := by decide
  refine ⟨h1.tr fu, fun g i hg hi => ?_, fun c2 hc2 => ?_, ?_, fun c2 hc2 => (List.mem_append.mp hc2).elim (fun z => h7 c2 z) (fun z => by rw [List.mem_singleton.mp z]; exact hc)⟩
  · rw [List.map_append, List.mem_append, not_or] at hi
    rw [hu g i hg, if_neg (fun z => hi.2 (by rw [z.1, z.2]; exact List.mem_cons_self))]
    exact h3 g i hg hi.1
  · rcases List.mem_append.mp hc2 with hc2 | hc2
    · obtain ⟨b, b1, b2, b3⟩ := h4 c2 hc2
      refine ⟨b, ?_, by omega, ?_⟩
      · rw [hu _ _ (at2 _ (h7 c2 hc2)), if_neg (fun y => hn (List.mem_map.mpr ⟨c2, hc2, by unfold ceK; rw [y.1, y.2]⟩))]
        exact b1
      · rw [h2]
        exact Eq.trans (wd_congr fun k hk => cpy_lo (by omega)) b3
    · have e : c2 = c := List.mem_singleton.mp hc2
      subst e
      refine ⟨p, ?_, Nat.le_refl _, ?_⟩
      · rw [hu _ _ (at2 _ hc), if_pos ⟨rfl, rfl⟩]
      · rw [h2, cpy_wd]; exact hw
  · rw [ceN_app, ← h5]; rfl
end MOVED
