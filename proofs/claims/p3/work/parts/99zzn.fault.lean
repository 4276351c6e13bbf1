/-! tellFault. -/
section FAULT
variable {Y : Nat → MethodName × ByteArray} {d : Nat}
set_option maxRecDepth 100000 in
theorem c_tellFault {σ : mjS} {ws : Req} {ks : List KR} {l : List Int32} (h : Wd σ ws ks l) (ty : mjTY σ) {c : Nat} (hc : c < 4) {qe we ce : Nat} {I : Nat → Nat} {G : Nat → List Req} (hX : CX σ qe we ce I G) {x1 : Int32} (e1 : x1 = nI c) : mjY mjPP (mjQQ Y) (d + 5) 170 0 (mjL0 2 [.ref 0, .int x1]) [] σ (fun r u => r = none ∧ Fr doF0 doHs σ u ∧ Wd u ws ks l ∧ ∃ I' G', CX u qe we ce I' G' ∧ CL I I' G G') := by
  have v1 : vp_in x1 4 := by rw [e1]; exact vp_in_nI hc (by decide)
  refine mjZ_y rfl rfl 6 _ _ _ _ ty ?_
  refine (And.intro rfl (And.intro (Or.inl rfl) (fun ty' => (And.intro rfl (And.intro (Or.inr ⟨rfl, Or.inl rfl⟩) (fun ty'' => ?_))))))
  have go : ∀ u : mjS, mjTY u → u = (upd (upd σ.1 f_answerSize 0) f_tooLong 0, σ.2) → mjY mjPP (mjQQ Y) (d + 5) 170 6 [some (.ref 0), some (.int x1)] [] u (fun r u => r = none ∧ Fr doF0 doHs σ u ∧ Wd u ws ks l ∧ ∃ I' G', CX u qe we ce I' G' ∧ CL I I' G G') := by
    intro u tu eu
    have fu : Fr [f_answerSize, f_tooLong] [] σ u := by rw [eu]; exact (Fr.i (by decide)).tr (Fr.i (by decide))
    have eA : u.1 f_answerSize = nI 0 := by
      rw [eu]; show upd (upd σ.1 f_answerSize 0) f_tooLong 0 f_answerSize = _
      rw [pk_un (by decide)]; exact pk_us (f := σ.1) (k := f_answerSize) (x := 0)
    have hu : Wd u ws ks l := by
      obtain ⟨⟨hs, fk, fe, k⟩, a, p, -, t⟩ := h
      exact ⟨⟨hs, fk, fe, k.fr fu (by decide) (by decide)⟩, a.fr fu (by decide) (by decide) (by decide) (by decide), pnd_fr p fu (by decide) (by decide), ⟨⟨0, by decide, eA⟩, trivial⟩, t.fr fu (by decide) (by decide) (by decide)⟩
    have xu := hX.fr fu (by decide) (by decide)
    have s50 : ∀ v, mjTY v → Wd v ws ks l → oO u v → mjY mjPP (mjQQ Y) (d + 5) 170 50 [some (.ref 0), some (.int x1)] [] v (fun r u => r = none ∧ Fr doF0 doHs σ u ∧ Wd u ws ks l ∧ ∃ I' G', CX u qe we ce I' G' ∧ CL I I' G G') := by
      intro v tv hv ov
      refine mjZ_y rfl rfl 2 _ _ _ _ tv ?_
      refine (And.intro (Nat.le_of_ble_eq_true rfl) (And.intro rfl (And.intro (Nat.le_of_ble_eq_true rfl) (And.intro (Nat.le_of_ble_eq_true rfl) (mjY_mono tv (fun q_ v2 tv2 h_ => ?_) (w_line hv tv))))))
      obtain ⟨rfl, hv2, ov2⟩ := h_
      intro _
      have o := ov.tr ov2
      have x2 := xu.fr o.1 (by decide) (by decide)
      refine mjZ_y rfl rfl 3 _ _ _ _ tv2 ?_
      refine (And.intro (Nat.le_of_ble_eq_true rfl) (And.intro rfl (And.intro (Nat.le_of_ble_eq_true rfl) (And.intro (Nat.le_of_ble_eq_true rfl) (mjY_mono tv2 (fun q_ v3 tv3 h_ => ?_) (c_tell tv2 hv2.2.2.2.1 hv2.2.2.2.2 x2 hc e1))))))
      obtain ⟨rfl, f3, w3, I3, G3, x3, l3⟩ := h_
      intro _
      have h3 : Wd v3 ws ks l := hv2.wt f3 w3 (by decide) (by decide)
      have fs3 : Fr doF0 doHs σ v3 := ((fu.up (by decide) (by decide)).tr (o.1.up (by decide) (by decide))).tr (f3.up (by decide) (by decide))
      have fin : ∀ w, mjTY w → Fr doF0 doHs σ w → Wd w ws ks l → (∃ I' G', CX w qe we ce I' G' ∧ CL I I' G G') → mjY mjPP (mjQQ Y) (d + 5) 170 63 [some (.ref 0), some (.int x1)] [] w (fun r u => r = none ∧ Fr doF0 doHs σ u ∧ Wd u ws ks l ∧ ∃ I' G', CX u qe we ce I' G' ∧ CL I I' G G') := by
        intro w tw fw hw ew
        refine mjZ_y rfl rfl 1 _ _ _ _ tw ?_
        refine And.intro rfl (And.intro rfl ?_)
        exact ⟨rfl, fw, hw, ew⟩
      refine mjZ_y rfl rfl 5 _ _ _ _ tv3 ?_
      refine (And.intro rfl (And.intro (Or.inr rfl) (And.intro v1 (And.intro (fun s => ?_) (fun s => ?_)))))
      · exact fin v3 tv3 fs3 h3 ⟨I3, G3, x3, l3⟩
      · refine mjZ_y rfl rfl 3 _ _ _ _ tv3 ?_
        refine (And.intro (Nat.le_of_ble_eq_true rfl) (And.intro rfl (And.intro (Nat.le_of_ble_eq_true rfl) (And.intro (Nat.le_of_ble_eq_true rfl) (mjY_mono tv3 (fun q_ v4 tv4 h_ => ?_) (x_close tv3 hc e1))))))
        obtain ⟨rfl, e4⟩ := h_
        intro _
        have f4 : Fr [] c2H v3 v4 := by rw [e4]; exact zrS_fr _ _ _
        have h4 : Wd v4 ws ks l := by rw [e4]; exact h3.wt (zrS_fr v3 c2H c) (WT_z h3.2.2.2.2 _ _ (by decide) (by decide)) (by decide) (by decide)
        have x4 : CX v4 qe we ce (I0 I3 c) (G0 G3 c) := by rw [e4]; exact CX_z x3 c
        exact fin v4 tv4 (fs3.tr (f4.up (by decide) (by decide))) h4 ⟨_, _, x4, l3.tr (CL.z I3 G3 c)⟩
    have s43 : ∀ v, mjTY v → Wd v ws ks l → oO u v → mjY mjPP (mjQQ Y) (d + 5) 170 43 [some (.ref 0), some (.int x1)] [] v (fun r u => r = none ∧ Fr doF0 doHs σ u ∧ Wd u ws ks l ∧ ∃ I' G', CX u qe we ce I' G' ∧ CL I I' G G') := by
      intro v tv hv ov
      refine mjZ_y rfl rfl 4 _ _ _ _ tv ?_
      refine (And.intro rfl (And.intro (fun a => ?_) (fun a => ?_)))
      · exact s50 v tv hv ov
      · refine mjZ_y rfl rfl 3 _ _ _ _ tv ?_
        refine (And.intro (Nat.le_of_ble_eq_true rfl) (And.intro rfl (And.intro (Nat.le_of_ble_eq_true rfl) (And.intro (Nat.le_of_ble_eq_true rfl) (mjY_mono tv (fun q_ w tw h_ => ?_) (w_letters hv tv _))))))
        obtain ⟨rfl, hw, ow⟩ := h_
        intro _
        exact s50 w tw hw (ov.tr ow)
    have s36 : ∀ v, mjTY v → Wd v ws ks l → oO u v → mjY mjPP (mjQQ Y) (d + 5) 170 36 [some (.ref 0), some (.int x1)] [] v (fun r u => r = none ∧ Fr doF0 doHs σ u ∧ Wd u ws ks l ∧ ∃ I' G', CX u qe we ce I' G' ∧ CL I I' G G') := by
      intro v tv hv ov
      refine mjZ_y rfl rfl 4 _ _ _ _ tv ?_
      refine (And.intro rfl (And.intro (fun a => ?_) (fun a => ?_)))
      · exact s43 v tv hv ov
      · refine mjZ_y rfl rfl 3 _ _ _ _ tv ?_
        refine (And.intro (Nat.le_of_ble_eq_true rfl) (And.intro rfl (And.intro (Nat.le_of_ble_eq_true rfl) (And.intro (Nat.le_of_ble_eq_true rfl) (mjY_mono tv (fun q_ w tw h_ => ?_) (w_letters hv tv _))))))
        obtain ⟨rfl, hw, ow⟩ := h_
        intro _
        exact s43 w tw hw (ov.tr ow)
    have s29 : ∀ v, mjTY v → Wd v ws ks l → oO u v → mjY mjPP (mjQQ Y) (d + 5) 170 29 [some (.ref 0), some (.int x1)] [] v (fun r u => r = none ∧ Fr doF0 doHs σ u ∧ Wd u ws ks l ∧ ∃ I' G', CX u qe we ce I' G' ∧ CL I I' G G') := by
      intro v tv hv ov
      refine mjZ_y rfl rfl 4 _ _ _ _ tv ?_
      refine (And.intro rfl (And.intro (fun a => ?_) (fun a => ?_)))
      · exact s36 v tv hv ov
      · refine mjZ_y rfl rfl 3 _ _ _ _ tv ?_
        refine (And.intro (Nat.le_of_ble_eq_true rfl) (And.intro rfl (And.intro (Nat.le_of_ble_eq_true rfl) (And.intro (Nat.le_of_ble_eq_true rfl) (mjY_mono tv (fun q_ w tw h_ => ?_) (w_letters hv tv _))))))
        obtain ⟨rfl, hw, ow⟩ := h_
        intro _
        exact s36 w tw hw (ov.tr ow)
    have s22 : ∀ v, mjTY v → Wd v ws ks l → oO u v → mjY mjPP (mjQQ Y) (d + 5) 170 22 [some (.ref 0), some (.int x1)] [] v (fun r u => r = none ∧ Fr doF0 doHs σ u ∧ Wd u ws ks l ∧ ∃ I' G', CX u qe we ce I' G' ∧ CL I I' G G') := by
      intro v tv hv ov
      refine mjZ_y rfl rfl 4 _ _ _ _ tv ?_
      refine (And.intro rfl (And.intro (fun a => ?_) (fun a => ?_)))
      · exact s29 v tv hv ov
      · refine mjZ_y rfl rfl 3 _ _ _ _ tv ?_
        refine (And.intro (Nat.le_of_ble_eq_true rfl) (And.intro rfl (And.intro (Nat.le_of_ble_eq_true rfl) (And.intro (Nat.le_of_ble_eq_true rfl) (mjY_mono tv (fun q_ w tw h_ => ?_) (w_letters hv tv _))))))
        obtain ⟨rfl, hw, ow⟩ := h_
        intro _
        exact s29 w tw hw (ov.tr ow)
    refine mjZ_y rfl rfl 3 _ _ _ _ tu ?_
    refine (And.intro (Nat.le_of_ble_eq_true rfl) (And.intro rfl (And.intro (Nat.le_of_ble_eq_true rfl) (And.intro (Nat.le_of_ble_eq_true rfl) (mjY_mono tu (fun q_ u2 ty2 h_ => ?_) (w_letters hu tu _))))))
    obtain ⟨rfl, h2, o2⟩ := h_
    intro _
    refine mjZ_y rfl rfl 3 _ _ _ _ ty2 ?_
    refine (And.intro (Nat.le_of_ble_eq_true rfl) (And.intro rfl (And.intro (Nat.le_of_ble_eq_true rfl) (And.intro (Nat.le_of_ble_eq_true rfl) (mjY_mono ty2 (fun q_ u3 ty3 h_ => ?_) (w_letters h2 ty2 _))))))
    obtain ⟨rfl, h3, o3⟩ := h_
    intro _
    refine mjZ_y rfl rfl 3 _ _ _ _ ty3 ?_
    refine (And.intro (Nat.le_of_ble_eq_true rfl) (And.intro rfl (And.intro (Nat.le_of_ble_eq_true rfl) (And.intro (Nat.le_of_ble_eq_true rfl) (mjY_mono ty3 (fun q_ u4 ty4 h_ => ?_) (w_letters h3 ty3 _))))))
    obtain ⟨rfl, h4, o4⟩ := h_
    intro _
    have o := (o2.tr o3).tr o4
    refine mjZ_y rfl rfl 4 _ _ _ _ ty4 ?_
    refine (And.intro rfl (And.intro (fun a => ?_) (fun a => ?_)))
    · exact s22 u4 ty4 h4 o
    · refine mjZ_y rfl rfl 3 _ _ _ _ ty4 ?_
      refine (And.intro (Nat.le_of_ble_eq_true rfl) (And.intro rfl (And.intro (Nat.le_of_ble_eq_true rfl) (And.intro (Nat.le_of_ble_eq_true rfl) (mjY_mono ty4 (fun q_ u5 ty5 h_ => ?_) (w_letters h4 ty4 _))))))
      obtain ⟨rfl, h5, o5⟩ := h_
      intro _
      exact s22 u5 ty5 h5 (o.tr o5)
  exact go _ ty'' rfl
end FAULT
