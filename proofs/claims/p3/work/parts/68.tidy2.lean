/-! tidy's two loops. -/
section TIDY2
variable {Y : Nat → MethodName × ByteArray} {d : Nat}
def ceE (y : ER) : List CE := [(r_eAt, r_eLen, y.1, y.2.1), (r_vAt, r_vLen, y.1, y.2.2.1)]
def ceEs (es : List ER) : List CE := es.flatMap ceE
def ceX (x : KR) : List CE := (r_kAt, r_kLen, x.1, x.2.1) :: (r_tAt, r_tLen, x.1, x.2.2.2.2.2.1) :: ceEs x.2.2.2.2.2.2
def ceA (ks : List KR) : List CE := ks.flatMap ceX
theorem mem_ceEs {es : List ER} {g i : Nat} (h : (g, i) ∈ (ceEs es).map ceK) : (g = r_eAt ∨ g = r_vAt) ∧ i ∈ ids es := by
  obtain ⟨c, hc, e⟩ := List.mem_map.mp h
  obtain ⟨y, hy, hc⟩ := List.mem_flatMap.mp hc
  have e1 : c.1 = g := congrArg Prod.fst e
  have e2 : c.2.2.1 = i := congrArg Prod.snd e
  have m : y.1 ∈ ids es := List.mem_map.mpr ⟨y, hy, rfl⟩
  rcases List.mem_cons.mp hc with rfl | hc
  · exact ⟨Or.inl e1.symm, e2 ▸ m⟩
  · have := List.mem_singleton.mp hc
    subst this
    exact ⟨Or.inr e1.symm, e2 ▸ m⟩
theorem mem_ceA {ks : List KR} {g i : Nat} (h : (g, i) ∈ (ceA ks).map ceK) : ((g = r_kAt ∨ g = r_tAt) ∧ i ∈ kIds ks) ∨ ((g = r_eAt ∨ g = r_vAt) ∧ i ∈ eIds ks) := by
  obtain ⟨c, hc, e⟩ := List.mem_map.mp h
  obtain ⟨x, hx, hc⟩ := List.mem_flatMap.mp hc
  have e1 : c.1 = g := congrArg Prod.fst e
  have e2 : c.2.2.1 = i := congrArg Prod.snd e
  rcases List.mem_cons.mp hc with rfl | hc
  · exact Or.inl ⟨Or.inl e1.symm, e2 ▸ mem_kIds hx⟩
  · rcases List.mem_cons.mp hc with rfl | hc
    · exact Or.inl ⟨Or.inr e1.symm, e2 ▸ mem_kIds hx⟩
    · have q := mem_ceEs (List.mem_map.mpr ⟨c, hc, e⟩)
      exact Or.inr ⟨q.1, mem_eIds hx q.2⟩
set_option maxRecDepth 100000 in
theorem c_tidy_in (K : mjK) {s0 : mjS} {hs : Nat} (hh : hs ≤ 300000) (x2 x3 : Int32) : ∀ (es : List ER) (σ : mjS) (p : Nat) (D : List CE) (x1 x4 : Int32), x1 = nI p → x4 = nx (ids es) → TI s0 σ p D → FSEG s0 (ids es) → (∀ y ∈ es, EOK s0 hs y) → (ids es).Nodup → (∀ i ∈ ids es, (r_eAt, i) ∉ D.map ceK ∧ (r_vAt, i) ∉ D.map ceK) → p + ceN (ceEs es) ≤ 200000 → mjTY σ →
    (∀ u l4, mjTY u → TI s0 u (p + ceN (ceEs es)) (D ++ ceEs es) → mjY mjPP (mjQQ Y) (d + 1) 5 114 [some (.ref 0), some (.int (nI (p + ceN (ceEs es)))), some (.int x2), some (.int x3), l4] [] u K) →
    mjY mjPP (mjQQ Y) (d + 1) 5 62 [some (.ref 0), some (.int x1), some (.int x2), some (.int x3), some (.int x4)] [] σ K := by
  intro es
  induction es with
  | nil =>
    intro σ p D x1 x4 e1 e4 h _ _ _ _ _ ty hK
    subst e1; subst e4
    refine mjZ_y rfl rfl 2 _ _ _ _ ty ?_
    refine And.intro (fun _ => hK σ _ ty (by rw [show ceEs [] = [] from rfl, List.append_nil]; exact h)) (fun c => absurd (show (-1 : Int32) < 0 by decide) c)
  | cons y r ih =>
    intro σ p D x1 x4 e1 e4 h hF hE nd hD hp ty hK
    have e4 : x4 = nI y.1 := e4
    subst e4
    have hy := hE y List.mem_cons_self
    have y10 := hy.1
    have nd1 := List.nodup_cons.mp nd
    have eN : ceN (ceEs (y :: r)) = y.2.1.length + (y.2.2.1.length + ceN (ceEs r)) := rfl
    have eE : ∀ D : List CE, D ++ ceEs (y :: r) = ((D ++ [(r_eAt, r_eLen, y.1, y.2.1)]) ++ [(r_vAt, r_vLen, y.1, y.2.2.1)]) ++ ceEs r := fun D => by
      rw [List.append_assoc, List.append_assoc]; rfl
    rw [eN] at hp
    refine mjZ_y rfl rfl 2 _ _ _ _ ty ?_
    refine And.intro (fun c => absurd (show nI y.1 < 0 from c) (nI_n0 (by omega))) (fun _ => ?_)
    have hDy := hD y.1 List.mem_cons_self
    refine c_tidy_e K (s0 := s0) (hs := hs) y.1 y.2.1 _ x2 x3 e1 h y10 hy.2.1 hh hDy.1 (by omega) ty (fun u1 ty1 h1 => ?_)
    refine c_tidy_v K (s0 := s0) (hs := hs) y.1 y.2.2.1 _ x2 x3 rfl h1 y10 hy.2.2.1 hh ?_ (by omega) ty1 (fun u2 ty2 h2 => ?_)
    · rw [List.map_append, List.mem_append, not_or]
      exact ⟨hDy.2, fun q => by
        have z := congrArg Prod.fst (List.mem_singleton.mp q)
        exact absurd (show r_vAt = r_eAt from z) (by decide)⟩
    · have ic : (nI y.1).toNatClampNeg = y.1 := nI_clamp (by omega)
      refine mjZ_y rfl rfl 6 _ _ _ _ ty2 ?_
      refine And.intro rfl (And.intro rfl (And.intro (vp_in_nI (by show y.1 < 10000; omega) (by decide)) (And.intro (Nat.le_of_ble_eq_true rfl) ?_)))
      refine ih u2 (p + y.2.1.length + y.2.2.1.length) _ _ _ rfl ?_ h2 hF.2 (fun z hz => hE z (List.mem_cons_of_mem _ hz)) nd1.2 (fun i hi => ?_) (by omega) ty2 (fun u l4 tu hu => ?_)
      · show u2.2.2.1 r_eNext (nI y.1).toNatClampNeg = _
        rw [ic, (h2.1.2.2 r_eNext (by decide)).1]; exact hF.1
      · have ne : i ≠ y.1 := fun q => nd1.1 (show y.1 ∈ ids r from q ▸ hi)
        have hDi := hD i (List.mem_cons_of_mem _ hi)
        rw [List.map_append, List.map_append, List.mem_append, List.mem_append, List.mem_append, List.mem_append]
        have n1 : ∀ (g : Nat) (c : CE), c.2.2.1 = y.1 → (g, i) ∉ [c].map ceK := fun g c hc q => ne ((congrArg Prod.snd (List.mem_singleton.mp q)).trans hc)
        exact ⟨fun q => q.elim (fun q => q.elim hDi.1 (n1 _ _ rfl)) (n1 _ _ rfl), fun q => q.elim (fun q => q.elim hDi.2 (n1 _ _ rfl)) (n1 _ _ rfl)⟩
      · have es : p + ceN (ceEs (y :: r)) = p + y.2.1.length + y.2.2.1.length + ceN (ceEs r) := by rw [eN]; omega
        have := hK u l4 tu
        rw [es, eE] at this
        exact this hu
end TIDY2
