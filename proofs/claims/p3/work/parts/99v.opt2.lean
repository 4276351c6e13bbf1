/-! Other options: integers, sides, bounds, ranges. -/
section OPT2
variable {Y : Nat → MethodName × ByteArray} {d : Nat}
abbrev inFs : List Nat := [f_num, f_n1, f_n2, f_answerSize, f_tooLong, f_digitsSize]
theorem oO.in {σ u : mjS} (o : oO σ u) : Fr inFs oH σ u := o.1.up (by decide) (by decide)
set_option maxRecDepth 100000 in
theorem c_oneInteger {σ : mjS} {ws : List (List Int32)} {ks : List KR} {l : List Int32} (h : Wd σ ws ks l) (ty : mjTY σ) {i : Nat} {w : List Int32} (hw : ws[i]? = some w) {x : Int32} (ex : x = nI i) : mjY mjPP (mjQQ Y) (d + 4) 68 0 (mjL0 2 [.ref 0, .int x]) [] σ (fun r u => r = some (.int (bI (intF w).isSome)) ∧ Fr inFs oH σ u ∧ Wd u ws ks l ∧ ∀ z, intF w = some z → u.2.1 f_n1 = z) := by
  refine mjZ_y rfl rfl 3 _ _ _ _ ty ?_
  refine (And.intro (Nat.le_of_ble_eq_true rfl) (And.intro rfl (And.intro (Nat.le_of_ble_eq_true rfl) (And.intro (Nat.le_of_ble_eq_true rfl) (mjY_mono ty (fun q_ u2 ty2 h_ => ?_) (w_integer h ty hw ex))))))
  obtain ⟨h2, f2, hz⟩ := h_
  intro _
  rcases hz with ⟨z, hz, rfl, ez⟩ | ⟨hz, rfl⟩
  · rw [hz]
    refine mjZ_y rfl rfl 1 _ _ _ _ ty2 ?_
    refine And.intro (fun c => ?_) (fun c => ?_)
    · refine mjZ_y rfl rfl 6 _ _ _ _ ty2 ?_
      refine (And.intro rfl (And.intro rfl (And.intro rfl (fun ty2' => And.intro rfl (And.intro (Or.inr ⟨rfl, Or.inr rfl⟩) ?_)))))
      refine ⟨rfl, (f2.up (by decide) (by decide)).tr (Fr.l (by decide)), h2.fr (Fr.l (fs := [f_n1]) (hs := []) (by decide)) (by decide) (by decide), fun y hy => ?_⟩
      rw [← Option.some.inj hy, ← ez]
      exact pk_uLs (f := u2.2.1) (k := f_n1) (x := u2.2.1 f_num)
    · exact absurd (show ¬ (1 : Int32) = 0 by decide) c
  · rw [hz]
    refine mjZ_y rfl rfl 1 _ _ _ _ ty2 ?_
    refine And.intro (fun c => ?_) (fun c => ?_)
    · exact absurd rfl c
    · refine mjZ_y rfl rfl 2 _ _ _ _ ty2 ?_
      refine (And.intro (Nat.le_of_ble_eq_true rfl) (And.intro rfl (And.intro (Nat.le_of_ble_eq_true rfl) (And.intro (Nat.le_of_ble_eq_true rfl) (mjY_mono ty2 (fun q_ u3 ty3 h_ => ?_) (w_noInteger h2 ty2))))))
      obtain ⟨rfl, h3, f3⟩ := h_
      intro _
      refine mjZ_y rfl rfl 1 _ _ _ _ ty3 ?_
      refine And.intro rfl (And.intro (Or.inr ⟨rfl, Or.inl rfl⟩) ?_)
      exact ⟨rfl, (f2.up (by decide) (by decide)).tr f3.in, h3, fun y hy => by cases hy⟩
def twF (v w : List Int32) : Option (Int64 × Int64) := (intF v).bind (fun a => (intF w).map (fun b => (a, b)))
set_option maxRecDepth 100000 in
theorem c_twoIntegers {σ : mjS} {ws : List (List Int32)} {ks : List KR} {l : List Int32} (h : Wd σ ws ks l) (ty : mjTY σ) {i j : Nat} {v w : List Int32} (hv : ws[i]? = some v) (hw : ws[j]? = some w) {x y : Int32} (ex : x = nI i) (ey : y = nI j) : mjY mjPP (mjQQ Y) (d + 5) 69 0 (mjL0 3 [.ref 0, .int x, .int y]) [] σ (fun r u => r = some (.int (bI (twF v w).isSome)) ∧ Fr inFs oH σ u ∧ Wd u ws ks l ∧ ∀ z, twF v w = some z → u.2.1 f_n1 = z.1 ∧ u.2.1 f_n2 = z.2) := by
  unfold twF
  refine mjZ_y rfl rfl 3 _ _ _ _ ty ?_
  refine (And.intro (Nat.le_of_ble_eq_true rfl) (And.intro rfl (And.intro (Nat.le_of_ble_eq_true rfl) (And.intro (Nat.le_of_ble_eq_true rfl) (mjY_mono ty (fun q_ u2 ty2 h_ => ?_) (c_oneInteger h ty hv ex))))))
  obtain ⟨rfl, f2, h2, hz⟩ := h_
  intro _
  cases ha : intF v with
  | none =>
    refine mjZ_y rfl rfl 1 _ _ _ _ ty2 ?_
    refine And.intro (fun c => ?_) (fun c => ?_)
    · exact absurd rfl c
    · refine mjZ_y rfl rfl 2 _ _ _ _ ty2 ?_
      refine And.intro rfl (And.intro (Or.inr ⟨rfl, Or.inl rfl⟩) ?_)
      exact ⟨rfl, f2, h2, fun y hy => by cases hy⟩
  | some a =>
    have ea := hz a ha
    refine mjZ_y rfl rfl 1 _ _ _ _ ty2 ?_
    refine And.intro (fun c => ?_) (fun c => ?_)
    · refine mjZ_y rfl rfl 3 _ _ _ _ ty2 ?_
      refine (And.intro (Nat.le_of_ble_eq_true rfl) (And.intro rfl (And.intro (Nat.le_of_ble_eq_true rfl) (And.intro (Nat.le_of_ble_eq_true rfl) (mjY_mono ty2 (fun q_ u3 ty3 h_ => ?_) (w_integer h2 ty2 hw ey))))))
      obtain ⟨h3, f3, hz⟩ := h_
      intro _
      have f3z : Fr inFs oH σ u3 := f2.tr (f3.up (by decide) (by decide))
      rcases hz with ⟨z, hz, rfl, ez⟩ | ⟨hz, rfl⟩
      · rw [hz]
        refine mjZ_y rfl rfl 1 _ _ _ _ ty3 ?_
        refine And.intro (fun c => ?_) (fun c => ?_)
        · refine mjZ_y rfl rfl 6 _ _ _ _ ty3 ?_
          refine (And.intro rfl (And.intro rfl (And.intro rfl (fun ty3' => And.intro rfl (And.intro (Or.inr ⟨rfl, Or.inr rfl⟩) ?_)))))
          refine ⟨rfl, f3z.tr (Fr.l (by decide)), h3.fr (Fr.l (fs := [f_n2]) (hs := []) (by decide)) (by decide) (by decide), fun y hy => ?_⟩
          have hy : (a, z) = y := Option.some.inj hy
          rw [← hy]
          refine ⟨((pk_uLn (f := u3.2.1) (k := f_n2) (x := u3.2.1 f_num) (j := f_n1) (by decide)).trans (f3.2.1 f_n1 (by decide))).trans ea, ?_⟩
          rw [← ez]
          exact pk_uLs (f := u3.2.1) (k := f_n2) (x := u3.2.1 f_num)
        · exact absurd (show ¬ (1 : Int32) = 0 by decide) c
      · rw [hz]
        refine mjZ_y rfl rfl 1 _ _ _ _ ty3 ?_
        refine And.intro (fun c => ?_) (fun c => ?_)
        · exact absurd rfl c
        · refine mjZ_y rfl rfl 2 _ _ _ _ ty3 ?_
          refine (And.intro (Nat.le_of_ble_eq_true rfl) (And.intro rfl (And.intro (Nat.le_of_ble_eq_true rfl) (And.intro (Nat.le_of_ble_eq_true rfl) (mjY_mono ty3 (fun q_ u4 ty4 h_ => ?_) (w_noInteger h3 ty3))))))
          obtain ⟨rfl, h4, f4⟩ := h_
          intro _
          refine mjZ_y rfl rfl 1 _ _ _ _ ty4 ?_
          refine And.intro rfl (And.intro (Or.inr ⟨rfl, Or.inl rfl⟩) ?_)
          exact ⟨rfl, f3z.tr f4.in, h4, fun y hy => by cases hy⟩
    · exact absurd (show ¬ (1 : Int32) = 0 by decide) c
abbrev clFs : List Nat := [f_optNx, f_optXx, f_optGet, f_optKeep, f_optGt, f_optLt, f_optCh, f_optIncr, f_optScores, f_optLimit, f_timed, f_noScore]
set_option maxRecDepth 100000 in
theorem c_clears {σ : mjS} (ty : mjTY σ) : mjY mjPP (mjQQ Y) d 70 0 (mjL0 1 [.ref 0]) [] σ (fun r u => r = some (.int 1) ∧ Fr clFs [] σ u ∧ ∀ k ∈ clFs, u.1 k = 0) := by
  refine mjZ_y rfl rfl 38 _ _ _ _ ty ?_
  refine (And.intro rfl (And.intro (Or.inr ⟨rfl, Or.inl rfl⟩) (fun ty' => (And.intro rfl (And.intro (Or.inr ⟨rfl, Or.inl rfl⟩) (fun ty'' => (And.intro rfl (And.intro (Or.inr ⟨rfl, Or.inl rfl⟩) (fun ty''' => (And.intro rfl (And.intro (Or.inr ⟨rfl, Or.inl rfl⟩) (fun ty'''' => (And.intro rfl (And.intro (Or.inr ⟨rfl, Or.inl rfl⟩) (fun ty''''' => (And.intro rfl (And.intro (Or.inr ⟨rfl, Or.inl rfl⟩) (fun ty'''''' => (And.intro rfl (And.intro (Or.inr ⟨rfl, Or.inl rfl⟩) (fun ty''''''' => (And.intro rfl (And.intro (Or.inr ⟨rfl, Or.inl rfl⟩) (fun ty'''''''' => (And.intro rfl (And.intro (Or.inr ⟨rfl, Or.inl rfl⟩) (fun ty''''''''' => (And.intro rfl (And.intro (Or.inr ⟨rfl, Or.inl rfl⟩) (fun ty'''''''''' => (And.intro rfl (And.intro (Or.inr ⟨rfl, Or.inl rfl⟩) (fun ty''''''''''' => (And.intro rfl (And.intro (Or.inr ⟨rfl, Or.inl rfl⟩) (fun ty'''''''''''' => And.intro rfl (And.intro (Or.inr ⟨rfl, Or.inr rfl⟩) ?_)))))))))))))))))))))))))))))))))))))
  refine ⟨rfl, ?_, ?_⟩
  · exact ((((((((((((Fr.rf.tr (Fr.i (by decide))).tr (Fr.i (by decide))).tr (Fr.i (by decide))).tr (Fr.i (by decide))).tr (Fr.i (by decide))).tr (Fr.i (by decide))).tr (Fr.i (by decide))).tr (Fr.i (by decide))).tr (Fr.i (by decide))).tr (Fr.i (by decide))).tr (Fr.i (by decide))).tr (Fr.i (by decide)))
  · intro k hk
    simp only [List.mem_cons, List.not_mem_nil, or_false] at hk
    rcases hk with rfl | rfl | rfl | rfl | rfl | rfl | rfl | rfl | rfl | rfl | rfl | rfl <;> rfl
set_option maxRecDepth 100000 in
theorem c_isSide {σ : mjS} {ws : List (List Int32)} {ks : List KR} {l : List Int32} (h : Wd σ ws ks l) (ty : mjTY σ) {i : Nat} {w : List Int32} (hw : ws[i]? = some w) {x : Int32} (ex : x = nI i) : mjY mjPP (mjQQ Y) (d + 2) 71 0 (mjL0 2 [.ref 0, .int x]) [] σ (fun r u => r = some (.int (bI (decide (isF w 1279608404 = 1 ∨ isF w 353416726612 = 1)))) ∧ u = σ) := by
  refine mjZ_y rfl rfl 4 _ _ _ _ ty ?_
  refine (And.intro (Nat.le_of_ble_eq_true rfl) (And.intro rfl (And.intro (Nat.le_of_ble_eq_true rfl) (And.intro (Nat.le_of_ble_eq_true rfl) (mjY_mono ty (fun q_ u2 ty2 h_ => ?_) (w_is h ty hw ex 1279608404))))))
  obtain ⟨rfl, rfl⟩ := h_
  intro _
  refine mjZ_y rfl rfl 1 _ _ _ _ ty2 ?_
  refine And.intro (fun c => ?_) (fun c => ?_)
  · rw [decide_eq_true (p := isF w 1279608404 = 1 ∨ isF w 353416726612 = 1) (Or.inl (isF_n c))]
    refine mjZ_y rfl rfl 3 _ _ _ _ ty2 ?_
    refine And.intro rfl (And.intro (Or.inr ⟨rfl, Or.inr rfl⟩) ?_)
    exact ⟨rfl, rfl⟩
  · refine mjZ_y rfl rfl 4 _ _ _ _ ty2 ?_
    refine (And.intro (Nat.le_of_ble_eq_true rfl) (And.intro rfl (And.intro (Nat.le_of_ble_eq_true rfl) (And.intro (Nat.le_of_ble_eq_true rfl) (mjY_mono ty2 (fun q_ u3 ty3 h_ => ?_) (w_is h ty2 hw ex 353416726612))))))
    obtain ⟨rfl, rfl⟩ := h_
    intro _
    refine mjZ_y rfl rfl 1 _ _ _ _ ty3 ?_
    refine And.intro (fun b => ?_) (fun b => ?_)
    · rw [decide_eq_false (p := isF w 1279608404 = 1 ∨ isF w 353416726612 = 1) (fun z => z.elim (isF_ne (Decidable.of_not_not c)) (isF_ne b))]
      refine mjZ_y rfl rfl 2 _ _ _ _ ty3 ?_
      refine And.intro rfl (And.intro (Or.inr ⟨rfl, Or.inl rfl⟩) ?_)
      exact ⟨rfl, rfl⟩
    · rw [decide_eq_true (p := isF w 1279608404 = 1 ∨ isF w 353416726612 = 1) (Or.inr (isF_n b))]
      refine mjZ_y rfl rfl 3 _ _ _ _ ty3 ?_
      refine And.intro rfl (And.intro (Or.inr ⟨rfl, Or.inr rfl⟩) ?_)
      exact ⟨rfl, rfl⟩
end OPT2
