/-! crash. -/
section CRASH
variable {Y : Nat → MethodName × ByteArray} {d : Nat}
theorem HI_HD {σ : mjS} {A : List AK} {P : Nat} (h : HI σ A P) : HD σ P := by
  obtain ⟨E, a, b, c, e⟩ := h
  refine ⟨E, A, false, [], 0, A, ?_, b, c, rfl, c, fun _ => Nat.zero_le _, e, ?_⟩
  · rw [List.take_zero, List.append_nil]; exact a
  · have e0 : (blkB false []).length = 0 := rfl
    rw [e0]; omega
set_option maxRecDepth 100000 in
theorem c_crash {σ : mjS} {bud : Nat} (h : GI σ bud) (ty : mjTY σ) : mjY mjPP (mjQQ Y) (d + 13) 184 0 (mjL0 1 [.ref 0]) [] σ (fun r u => (∃ z, r = some (.int z)) ∧ GI u bud) := by
  obtain ⟨ws, ks, l, qe, we, ce, I, G, P, t, g1, g2, ⟨t1, t2, t3, t4, t5, t6⟩, ⟨eT, g3⟩, g4, g5⟩ := h
  refine mjZ_y rfl rfl 3 _ _ _ _ ty ?_
  refine (And.intro rfl (And.intro (Or.inl rfl) (fun ty' => ?_)))
  have go : ∀ u : mjS, mjTY u → u = (upd σ.1 f_thrownCode 0, σ.2) → mjY mjPP (mjQQ Y) (d + 13) 184 3 [some (.ref 0)] [] u (fun r u => (∃ z, r = some (.int z)) ∧ GI u bud) := by
    intro u tu eu
    have f : Fr [f_thrownCode] [] σ u := by rw [eu]; exact Fr.i (by decide)
    have h1 := g1.fr f (by decide) (by decide)
    have h2 := g2.fr f (by decide) (by decide)
    have h4 : (¬ u.1 f_up = 0 ∧ HI u (strip ks) P) ∨ (u.1 f_up = 0 ∧ (ks = [] ∧ l = []) ∧ HD u P) := by
      rw [f.1 _ (by decide)]
      rcases g4 with ⟨a, b⟩ | ⟨a, b, c⟩
      · exact Or.inl ⟨a, b.fr f (by decide) (by decide)⟩
      · exact Or.inr ⟨a, b, c.fr f (by decide) (by decide)⟩
    refine mjZ_y rfl rfl 3 _ _ _ _ tu ?_
    refine (And.intro rfl (And.intro (fun q => ?_) (fun q => ?_)))
    · refine mjZ_y rfl rfl 2 _ _ _ _ tu ?_
      refine (And.intro (Nat.le_of_ble_eq_true rfl) (And.intro rfl (And.intro (Nat.le_of_ble_eq_true rfl) (And.intro (Nat.le_of_ble_eq_true rfl) (mjY_mono tu (fun q_ v tv h_ => ?_) (c_stop (d := d + 9) h1 tu h2))))))
      obtain ⟨rfl, fv, e0, hv, I', G', xv, lv, zv⟩ := h_
      intro _
      refine mjZ_y rfl rfl 2 _ _ _ _ tv ?_
      refine And.intro rfl (And.intro (Or.inr ⟨rfl, Or.inr rfl⟩) ?_)
      have fa : Fr (f_thrownCode :: stpF) stpH σ v := (f.up (by decide) (by decide)).tr (fv.up (by decide) (by decide))
      have hH : HD u P := by
        rcases h4 with ⟨-, b⟩ | ⟨-, -, b⟩
        · exact HI_HD b
        · exact b
      have a0 := zv 0 (by decide); have a1 := zv 1 (by decide); have a2 := zv 2 (by decide); have a3 := zv 3 (by decide)
      have eA : tpA I' = 0 := by unfold tpA; omega
      have hg : tpG G' ≤ tpG G := by
        have b0 := (lv.le 0).2; have b1 := (lv.le 1).2; have b2 := (lv.le 2).2; have b3 := (lv.le 3).2
        unfold tpG; omega
      exact ⟨⟨_, rfl⟩, ws, [], [], qe, we, ce, I', G', P, t, hv, xv, ⟨t1.fr fa (by decide), by rw [fa.1 _ (by decide)]; exact t2, by rw [fa.1 _ (by decide)]; exact t3, by rw [fa.2.1 _ (by decide)]; exact t4, t5.fr fa (by decide), t6.cl lv⟩, ⟨by rw [fa.1 _ (by decide)]; exact eT, by omega⟩, Or.inr ⟨e0, ⟨rfl, rfl⟩, hH.fr fv (by decide) (by decide)⟩, by omega, by omega, by omega⟩
    · refine mjZ_y rfl rfl 2 _ _ _ _ tu ?_
      refine And.intro rfl (And.intro (Or.inr ⟨rfl, Or.inl rfl⟩) ?_)
      exact ⟨⟨_, rfl⟩, ws, ks, l, qe, we, ce, I, G, P, t, h1, h2, ⟨t1.fr f (by decide), by rw [f.1 _ (by decide)]; exact t2, by rw [f.1 _ (by decide)]; exact t3, by rw [f.2.1 _ (by decide)]; exact t4, t5.fr f (by decide), t6⟩, ⟨by rw [f.1 _ (by decide)]; exact eT, by omega⟩, h4, by omega, by omega, by omega⟩
  exact go _ ty' rfl
end CRASH
