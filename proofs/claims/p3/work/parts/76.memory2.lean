/-! memory as a whole. -/
section MEMORY2
variable {Y : Nat → MethodName × ByteArray} {d : Nat} {σ : mjS}
set_option maxRecDepth 100000 in
theorem c_mem_out (K : mjK) {hs : Nat} {fk fe : List Nat} {ks : List KR} (hks : KS σ hs ks fk fe) (ty : mjTY σ) : ∀ (B A : List KR) (m : Nat) (x1 x2 : Int32) (l3 l4 l5 : Option Value), ks = A ++ B → x1 = nI m → x2 = nI A.length → K (some (.int (nI (m + memA B)))) σ →
    mjY mjPP (mjQQ Y) d 20 4 [some (.ref 0), some (.int x1), some (.int x2), l3, l4, l5] [] σ K := by
  have hl := ks_len hks
  obtain ⟨a1, a2, a3, a4, a5, -⟩ := hks
  intro B
  induction B with
  | nil =>
    intro A m x1 x2 l3 l4 l5 ek e1 e2 hK
    subst e1; subst e2
    rw [List.append_nil] at ek
    refine mjZ_y rfl rfl 6 _ _ _ _ ty ?_
    refine And.intro rfl (And.intro (fun _ => And.intro rfl (And.intro (Or.inl rfl) hK)) (fun c => absurd ?_ c))
    show σ.1 f_keys ≤ nI A.length
    rw [a3, ek]; exact nI_le (Nat.le_refl _) (by rw [← ek]; omega)
  | cons x B ih =>
    intro A m x1 x2 l3 l4 l5 ek e1 e2 hK
    subst e1; subst e2
    have hx : x ∈ ks := by rw [ek]; exact List.mem_append_right _ List.mem_cons_self
    obtain ⟨k1, k2, k3, k4, k5, k6, k7, k8, k9, k10, k11⟩ := a5 x hx
    have hlk : ks.length = A.length + (B.length + 1) := by rw [ek, List.length_append, List.length_cons]
    have ic : (nI A.length).toNatClampNeg = A.length := nI_clamp (by omega)
    have kc : (nI x.1).toNatClampNeg = x.1 := nI_clamp (by omega)
    have kv : vp_in (nI x.1) 4700 := vp_in_nI k1 (by decide)
    have ho : σ.2.2.1 r_order A.length = nI x.1 := a4 A.length x (by rw [ek, List.getElem?_append_right (Nat.le_refl _), Nat.sub_self]; rfl)
    obtain ⟨-, -, -, n1, -⟩ := k2
    obtain ⟨-, -, -, n2, -⟩ := k6
    refine mjZ_y rfl rfl 9 _ _ _ _ ty ?_
    refine And.intro rfl (And.intro (fun c => absurd (show σ.1 f_keys ≤ nI A.length from c) (by rw [a3]; exact nI_ge (by omega) (by omega))) (fun _ => ?_))
    refine And.intro rfl (And.intro rfl (And.intro (vp_in_nI (by show A.length < 4700; omega) (by decide)) (And.intro (Nat.le_of_ble_eq_true rfl) ?_)))
    have go : ∀ x3, x3 = nI x.1 → mjY mjPP (mjQQ Y) d 20 13 [some (.ref 0), some (.int (nI m)), some (.int (nI A.length)), some (.int x3), l4, l5] [] σ K := by
      intro x3 e3
      subst e3
      refine mjZ_y rfl rfl 14 _ _ _ _ ty ?_
      refine And.intro rfl (And.intro rfl (And.intro kv (And.intro rfl (And.intro rfl (And.intro kv (And.intro (Nat.le_of_ble_eq_true rfl) ?_))))))
      refine c_mem_w K x.1 k1 _ _ _ _ ty ?_
      refine mjZ_y rfl rfl 5 _ _ _ _ ty ?_
      refine And.intro rfl (And.intro rfl (And.intro kv (And.intro (Nat.le_of_ble_eq_true rfl) ?_)))
      refine c_mem_in K (hs := hs) _ _ _ ty x.2.2.2.2.2.2 (m + (64 + x.2.1.length + x.2.2.2.2.2.1.length)) _ _ ?_ ?_ k10.f k11 (fun l5 => ?_)
      · show nI m + (nI 64 + σ.2.2.1 r_kLen (nI x.1).toNatClampNeg + σ.2.2.1 r_tLen (nI x.1).toNatClampNeg) = _
        rw [kc, n1, n2, nI_add, nI_add, nI_add]
      · show σ.2.2.1 r_kHead (nI x.1).toNatClampNeg = _
        rw [kc]; exact k7
      · refine mjZ_y rfl rfl 2 _ _ _ _ ty ?_
        refine ih (A ++ [x]) _ _ _ _ _ _ (by rw [ek, List.append_assoc]; rfl) rfl (by rw [List.length_append]; exact nI_1 _) ?_
        rw [k3]
        rw [show m + memA (x :: B) = m + (64 + x.2.1.length + x.2.2.2.2.2.1.length) + memE (memW x.2.2.1) x.2.2.2.2.2.2 + memA B by show m + (64 + x.2.1.length + x.2.2.2.2.2.1.length + memE (memW x.2.2.1) x.2.2.2.2.2.2 + memA B) = _; omega] at hK
        exact hK
    refine go _ ?_
    show σ.2.2.1 r_order (nI A.length).toNatClampNeg = _
    rw [ic]; exact ho
set_option maxRecDepth 100000 in
theorem c_memory {hs : Nat} {fk fe : List Nat} {ks : List KR} (hks : KS σ hs ks fk fe) (ty : mjTY σ) : mjY mjPP (mjQQ Y) d 20 0 (mjL0 6 [.ref 0]) [] σ (fun r u => r = some (.int (nI (memA ks))) ∧ u = σ) := by
  refine mjZ_y rfl rfl 4 _ _ _ _ ty ?_
  refine And.intro (Nat.le_of_ble_eq_true rfl) (And.intro (Nat.le_of_ble_eq_true rfl) ?_)
  exact c_mem_out _ hks ty ks [] 0 _ _ _ _ _ rfl rfl rfl ⟨by rw [Nat.zero_add], rfl⟩
/-- the words take no more than the store does -/
theorem ceN_memE (w : Nat) : ∀ es : List ER, ceN (ceEs es) ≤ memE w es := by
  intro es
  induction es with
  | nil => exact Nat.le_refl _
  | cons y r ih =>
    have e : ceN (ceEs (y :: r)) = y.2.1.length + (y.2.2.1.length + ceN (ceEs r)) := rfl
    have e2 : memE w (y :: r) = w + y.2.1.length + y.2.2.1.length + memE w r := rfl
    omega
theorem tot_le : ∀ ks : List KR, tot ks ≤ memA ks := by
  intro ks
  induction ks with
  | nil => exact Nat.le_refl _
  | cons x r ih =>
    have e : tot (x :: r) = x.2.1.length + (x.2.2.2.2.2.1.length + ceN (ceEs x.2.2.2.2.2.2)) + tot r := by
      unfold tot
      rw [show ceA (x :: r) = ceX x ++ ceA r from List.flatMap_cons, ceN_app]; rfl
    have e2 : memA (x :: r) = 64 + x.2.1.length + x.2.2.2.2.2.1.length + memE (memW x.2.2.1) x.2.2.2.2.2.2 + memA r := rfl
    have := ceN_memE (memW x.2.2.1) x.2.2.2.2.2.2
    omega
end MEMORY2
