/-! UNWATCH. -/
section UNWATCH
variable {Y : Nat → MethodName × ByteArray} {d : Nat}
/-- the watches change, the rest of the world stays -/
theorem Wd.wt {σ u : mjS} {ws : List (List Int32)} {ks : List KR} {l : List Int32} {fs hs : List Nat} (h : Wd σ ws ks l) (f : Fr fs hs σ u) (t : WT u) (h1 : ∀ k ∈ stF ++ wF, k ∉ fs) (h2 : ∀ k ∈ stH ++ [r_req, r_aAt, r_aLen, r_pending], k ∉ hs) : Wd u ws ks l := by
  obtain ⟨⟨hs', fk, fe, k⟩, a, p, ⟨⟨n, hn, en⟩, -⟩, -⟩ := h
  have g1 : ∀ k ∈ wF, k ∉ fs := fun k hk => h1 k (List.mem_append_right _ hk)
  have g2 : ∀ k ∈ [r_req, r_aAt, r_aLen, r_pending], k ∉ hs := fun k hk => h2 k (List.mem_append_right _ hk)
  exact ⟨⟨hs', fk, fe, k.fr f (fun x hx => h1 x (List.mem_append_left _ hx)) (fun x hx => h2 x (List.mem_append_left _ hx))⟩, a.fr f (g1 _ (by decide)) (g2 _ (by decide)) (g2 _ (by decide)) (g2 _ (by decide)), pnd_fr p f (g1 _ (by decide)) (g2 _ (by decide)), ⟨⟨n, hn, by rw [f.1 _ (g1 _ (by decide))]; exact en⟩, trivial⟩, t⟩
theorem WT_0 {σ u : mjS} (h : WT σ) (c : Nat) (e : u.2.2.1 r_watches = upd (σ.2.2.1 r_watches) c 0) (e1 : u.2.2.1 r_watchAt = σ.2.2.1 r_watchAt) (e2 : u.2.2.1 r_watchLen = σ.2.2.1 r_watchLen) : WT u := by
  intro k hk
  rw [e, e1, e2]
  by_cases q : k = c
  · subst q
    exact ⟨0, by omega, pk_us (f := σ.2.2.1 r_watches) (k := k) (x := 0), fun w hw => absurd hw (Nat.not_lt_zero w)⟩
  · rw [pk_un q]; exact h k hk
set_option maxRecDepth 100000 in
theorem rd_98 {σ : mjS} {ws : List (List Int32)} {ks : List KR} {l : List Int32} (h : Wd σ ws ks l) (ty : mjTY σ) {c : Nat} (hc : c < 4) (ec : σ.1 f_cur = nI c) : mjY mjPP (mjQQ Y) (d + 9) 155 36 [some (.ref 0), some (.int (nI 98))] [] σ (fun r u => r = none ∧ Fr cF (r_watches :: cH) σ u ∧ Wd u ws ks l) := by
  have ne : ∀ c : Nat, c < 128 ∧ c ≠ 98 → ¬ nI 98 = nI c := fun c hc y => hc.2 ((nI_eq (by decide) (by omega)).mp y).symm
  have vc : vp_in (σ.1 f_cur) 4 := by rw [ec]; exact vp_in_nI hc (by decide)
  have dq : mjY mjPP (mjQQ Y) (d + 8) 162 0 (mjL0 2 [.ref 0, .int (nI 98)]) [] σ (fun r u => r = none ∧ Fr cF (r_watches :: cH) σ u ∧ Wd u ws ks l) := by
    refine mjZ_y rfl rfl 24 _ _ _ _ ty ?_
    refine (bn_t (ne 94 (by decide)) (bn_f (ne 94 (by decide)) (bn_t (ne 95 (by decide)) (bn_f (fun n => n rfl) (And.intro rfl (And.intro rfl (And.intro rfl (And.intro vc (fun ty' => (And.intro rfl (And.intro rfl (And.intro (Or.inr ⟨rfl, Or.inl rfl⟩) (And.intro vc (fun ty'' => ?_))))))))))))))
    have go : ∀ u : mjS, mjTY u → u = (σ.1, σ.2.1, mjIu (mjIu σ.2.2.1 r_watches (σ.1 f_cur).toNatClampNeg 0) r_disturbed (σ.1 f_cur).toNatClampNeg 0, σ.2.2.2) → mjY mjPP (mjQQ Y) (d + 8) 162 45 [some (.ref 0), some (.int (nI 98))] [] u (fun r u => r = none ∧ Fr cF (r_watches :: cH) σ u ∧ Wd u ws ks l) := by
      intro u tu eu
      have fu : Fr [] [r_watches, r_disturbed] σ u := by
        rw [eu]
        exact (Fr.a (σ := σ) (h := r_watches) (i := (σ.1 f_cur).toNatClampNeg) (v := 0) (by decide)).tr (Fr.a (by decide))
      have hu : Wd u ws ks l := by
        refine h.wt fu (WT_0 h.2.2.2.2 (σ.1 f_cur).toNatClampNeg ?_ ((fu.2.2 _ (by decide)).1) ((fu.2.2 _ (by decide)).1)) (by decide) (by decide)
        rw [eu]
        show mjIu (mjIu σ.2.2.1 r_watches (σ.1 f_cur).toNatClampNeg 0) r_disturbed (σ.1 f_cur).toNatClampNeg 0 r_watches = _
        rw [mjIu_ne (by decide), mjIu_self]
      refine mjZ_y rfl rfl 2 _ _ _ _ tu ?_
      refine (And.intro (Nat.le_of_ble_eq_true rfl) (And.intro rfl (And.intro (Nat.le_of_ble_eq_true rfl) (And.intro (Nat.le_of_ble_eq_true rfl) (mjY_mono tu (fun q_ u2 ty2 h_ => ?_) (w_ok hu tu))))))
      obtain ⟨rfl, h2, f2⟩ := h_
      intro _
      refine mjZ_y rfl rfl 2 _ _ _ _ ty2 ?_
      refine And.intro rfl (And.intro rfl ?_)
      exact ⟨rfl, (fu.up (by decide) (by decide)).tr (f2.1.up (by decide) (by decide)), h2⟩
    exact go _ ty'' rfl
  refine mjZ_y rfl rfl 21 _ _ _ _ ty ?_
  refine (bk_t rfl (bk_t rfl (bk_t rfl (bk_t rfl (bk_t rfl (bk_t rfl (And.intro (Nat.le_of_ble_eq_true rfl) (And.intro rfl (And.intro (Nat.le_of_ble_eq_true rfl) (And.intro (Nat.le_of_ble_eq_true rfl) (mjY_mono ty (fun q_ u1 ty1 h_ => ?_) (dq))))))))))))
  have h1 := h_
  intro _
  obtain rfl := h1.1
  refine mjZ_y rfl rfl 1 _ _ _ _ ty1 ?_
  refine And.intro rfl (And.intro rfl ?_)
  exact h1
end UNWATCH
