/-! tidy over all keys. -/
section TIDY3
variable {Y : Nat → MethodName × ByteArray} {d : Nat}
set_option maxRecDepth 100000 in
theorem c_tidy_out (K : mjK) {s0 : mjS} {hs : Nat} {fk fe : List Nat} {ks : List KR} (hks : KS s0 hs ks fk fe) : ∀ (B A : List KR) (σ : mjS) (p : Nat) (x1 x2 : Int32) (l3 l4 : Option Value), ks = A ++ B → x1 = nI p → x2 = nI A.length → TI s0 σ p (ceA A) → p + ceN (ceA B) ≤ 200000 → mjTY σ →
    (∀ u l2 l3 l4, mjTY u → TI s0 u (p + ceN (ceA B)) (ceA (A ++ B)) → mjY mjPP (mjQQ Y) (d + 1) 5 116 [some (.ref 0), some (.int (nI (p + ceN (ceA B)))), l2, l3, l4] [] u K) →
    mjY mjPP (mjQQ Y) (d + 1) 5 4 [some (.ref 0), some (.int x1), some (.int x2), l3, l4] [] σ K := by
  have hl := ks_len hks
  obtain ⟨a1, a2, a3, a4, a5, a6, a7, a8, a9, a10, a11, a12, a13, a14, a15, a16, a17⟩ := hks
  intro B
  induction B with
  | nil =>
    intro A σ p x1 x2 l3 l4 ek e1 e2 h hp ty hK
    subst e1; subst e2
    rw [List.append_nil] at ek
    refine mjZ_y rfl rfl 4 _ _ _ _ ty ?_
    refine And.intro rfl (And.intro (fun _ => hK σ _ _ _ ty (by rw [List.append_nil]; exact h)) (fun c => absurd ?_ c))
    show σ.1 f_keys ≤ nI A.length
    rw [h.1.1 f_keys (by decide), a3, ek]; exact nI_le (Nat.le_refl _) (by rw [← ek]; omega)
  | cons x B ih =>
    intro A σ p x1 x2 l3 l4 ek e1 e2 h hp ty hK
    subst e2
    have hx : x ∈ ks := by rw [ek]; exact List.mem_append_right _ List.mem_cons_self
    obtain ⟨k1, k2, k3, k4, k5, k6, k7, k8, k9, k10, k11⟩ := a5 x hx
    have hlk : ks.length = A.length + (B.length + 1) := by rw [ek, List.length_append, List.length_cons]
    have ic : (nI A.length).toNatClampNeg = A.length := nI_clamp (by omega)
    have eN : ceN (ceA (x :: B)) = x.2.1.length + (x.2.2.2.2.2.1.length + ceN (ceEs x.2.2.2.2.2.2)) + ceN (ceA B) := by
      rw [show ceA (x :: B) = ceX x ++ ceA B from List.flatMap_cons, ceN_app]; rfl
    have eA : ceA (A ++ [x]) = ((ceA A ++ [(r_kAt, r_kLen, x.1, x.2.1)]) ++ [(r_tAt, r_tLen, x.1, x.2.2.2.2.2.1)]) ++ ceEs x.2.2.2.2.2.2 := by
      rw [show ceA (A ++ [x]) = ceA A ++ ceA [x] from List.flatMap_append, show ceA [x] = ceX x from (List.flatMap_cons).trans (List.append_nil _), List.append_assoc, List.append_assoc]; rfl
    rw [eN] at hp
    have ndk := (List.nodup_append.mp a8).1
    have nde := (List.nodup_append.mp a11).1
    rw [ek, kIds_app, kIds_cons] at ndk
    rw [ek, eIds_app, eIds_cons] at nde
    have nk : x.1 ∉ kIds A := fun q => (List.nodup_append.mp ndk).2.2 x.1 q x.1 List.mem_cons_self rfl
    have ne : ∀ i ∈ ids x.2.2.2.2.2.2, i ∉ eIds A := fun i hi q => (List.nodup_append.mp nde).2.2 i q i (List.mem_append_left _ hi) rfl
    have nd : (ids x.2.2.2.2.2.2).Nodup := (List.nodup_append.mp (List.nodup_append.mp nde).2.1).1
    have mk : (r_kAt, x.1) ∉ (ceA A).map ceK := fun q => (mem_ceA q).elim (fun z => nk z.2) (fun z => absurd z.1 (by decide))
    have mt : (r_tAt, x.1) ∉ (ceA A).map ceK := fun q => (mem_ceA q).elim (fun z => nk z.2) (fun z => absurd z.1 (by decide))
    have me : ∀ i ∈ ids x.2.2.2.2.2.2, (r_eAt, i) ∉ (ceA A).map ceK := fun i hi q => (mem_ceA q).elim (fun z => absurd z.1 (by decide)) (fun z => ne i hi z.2)
    have mv : ∀ i ∈ ids x.2.2.2.2.2.2, (r_vAt, i) ∉ (ceA A).map ceK := fun i hi q => (mem_ceA q).elim (fun z => absurd z.1 (by decide)) (fun z => ne i hi z.2)
    have ho : s0.2.2.1 r_order A.length = nI x.1 := a4 A.length x (by rw [ek, List.getElem?_append_right (Nat.le_refl _), Nat.sub_self]; rfl)
    have kc : (nI x.1).toNatClampNeg = x.1 := nI_clamp (by omega)
    refine mjZ_y rfl rfl 9 _ _ _ _ ty ?_
    refine And.intro rfl (And.intro (fun c => absurd (show σ.1 f_keys ≤ nI A.length from c) (by rw [h.1.1 f_keys (by decide), a3]; exact nI_ge (by omega) (by omega))) (fun _ => ?_))
    refine And.intro rfl (And.intro rfl (And.intro (vp_in_nI (by show A.length < 4700; omega) (by decide)) (And.intro (Nat.le_of_ble_eq_true rfl) ?_)))
    have go : ∀ x3, x3 = nI x.1 → mjY mjPP (mjQQ Y) (d + 1) 5 13 [some (.ref 0), some (.int x1), some (.int (nI A.length)), some (.int x3), l4] [] σ K := by
      intro x3 e3
      subst e3
      refine c_tidy_k K (s0 := s0) (hs := hs) x.1 x.2.1 _ _ l4 e1 h k1 k2 a2 mk (by omega) ty (fun u1 ty1 h1 => ?_)
      refine c_tidy_t K (s0 := s0) (hs := hs) x.1 x.2.2.2.2.2.1 _ _ l4 rfl h1 k1 k6 a2 ?_ (by omega) ty1 (fun u2 ty2 h2 => ?_)
      · rw [List.map_append, List.mem_append, not_or]
        exact ⟨mt, fun q => by
          have z := congrArg Prod.fst (List.mem_singleton.mp q)
          exact absurd (show r_tAt = r_kAt from z) (by decide)⟩
      · refine mjZ_y rfl rfl 5 _ _ _ _ ty2 ?_
        refine And.intro rfl (And.intro rfl (And.intro (vp_in_nI (by show x.1 < 4700; omega) (by decide)) (And.intro (Nat.le_of_ble_eq_true rfl) ?_)))
        refine c_tidy_in K (s0 := s0) (hs := hs) a2 _ _ x.2.2.2.2.2.2 u2 _ _ _ _ rfl ?_ h2 k10.f k11 nd (fun i hi => ?_) (by omega) ty2 (fun u3 l4 ty3 h3 => ?_)
        · show u2.2.2.1 r_kHead (nI x.1).toNatClampNeg = _
          rw [kc, (h2.1.2.2 r_kHead (by decide)).1]; exact k7
        · rw [List.map_append, List.map_append, List.mem_append, List.mem_append, List.mem_append, List.mem_append]
          have n1 : ∀ (g j : Nat) (c : CE), c.1 ≠ g → (g, j) ∉ [c].map ceK := fun g j c hc q => hc (congrArg Prod.fst (List.mem_singleton.mp q)).symm
          exact ⟨fun q => q.elim (fun q => q.elim (me i hi) (n1 _ _ _ (by show r_kAt ≠ r_eAt; decide))) (n1 _ _ _ (by show r_tAt ≠ r_eAt; decide)), fun q => q.elim (fun q => q.elim (mv i hi) (n1 _ _ _ (by show r_kAt ≠ r_vAt; decide))) (n1 _ _ _ (by show r_tAt ≠ r_vAt; decide))⟩
        · rw [← eA] at h3
          refine mjZ_y rfl rfl 2 _ _ _ _ ty3 ?_
          refine ih (A ++ [x]) u3 _ _ _ _ _ (by rw [ek, List.append_assoc]; rfl) rfl (by rw [List.length_append]; exact nI_1 _) h3 (by omega) ty3 (fun u l2 l3 l4 tu hu => ?_)
          have := hK u l2 l3 l4 tu
          rw [eN, show p + (x.2.1.length + (x.2.2.2.2.2.1.length + ceN (ceEs x.2.2.2.2.2.2)) + ceN (ceA B)) = p + x.2.1.length + x.2.2.2.2.2.1.length + ceN (ceEs x.2.2.2.2.2.2) + ceN (ceA B) by omega] at this
          refine this ?_
          rw [show A ++ x :: B = A ++ [x] ++ B by rw [List.append_assoc]; rfl]
          exact hu
    refine go _ ?_
    show σ.2.2.1 r_order (nI A.length).toNatClampNeg = _
    rw [ic, (h.1.2.2 r_order (by decide)).1]; exact ho
end TIDY3
