/-! The log is read: isLogged. -/
section LOGGED
variable {Y : Nat → MethodName × ByteArray} {d : Nat}
theorem ltJ {i k : Nat} (hi : i < 2 ^ 30) (hk : k < 2 ^ 30) : nI i < nI k ↔ i < k := nI_ltI (by omega) (by omega)
theorem leJ {i k : Nat} (hi : i < 2 ^ 30) (hk : k < 2 ^ 30) : nI i ≤ nI k ↔ i ≤ k := ⟨fun z => Nat.le_of_not_lt (fun y => absurd z (nI_ge y (by omega))), fun z => nI_le z (by omega)⟩
theorem gtJ {i k : Nat} (hi : i < 2 ^ 30) (hk : k < 2 ^ 30) : nI k < nI i ↔ k < i := nI_ltI (by omega) (by omega)
set_option maxRecDepth 100000 in
theorem c_isLogged {σ : mjS} (ty : mjTY σ) (i : Nat) (hi : i < 2 ^ 30) : mjY mjPP (mjQQ Y) d 185 0 (mjL0 1 [.int (nI i)]) [] σ (fun r u => r = some (.int (bI (lgB i))) ∧ u = σ) := by
  have s89 : ¬ (2 ≤ i ∧ i ≤ 7) ∧ ¬ (9 ≤ i ∧ i ≤ 10) ∧ ¬ i = 11 ∧ ¬ (14 ≤ i ∧ i ≤ 19) ∧ ¬ i = 22 ∧ ¬ i = 25 ∧ ¬ i = 26 ∧ ¬ i = 29 ∧ ¬ i = 33 ∧ ¬ i = 34 ∧ ¬ (37 ≤ i ∧ i ≤ 42) ∧ ¬ (46 ≤ i ∧ i ≤ 51) ∧ ¬ i = 52 ∧ ¬ i = 53 ∧ ¬ i = 56 ∧ ¬ i = 63 ∧ ¬ i = 64 ∧ ¬ i = 65 ∧ ¬ i = 70 ∧ ¬ i = 77 ∧ ¬ (74 ≤ i ∧ i ≤ 76) → mjY mjPP (mjQQ Y) d 185 89 [some (.int (nI i))] [] σ (fun r u => r = some (.int (bI (lgB i))) ∧ u = σ) := by
    intro f89
    refine mjZ_y rfl rfl 3 _ _ _ _ ty ?_
    refine And.intro (fun c1 => ?_) (fun c1 => ?_)
    · have c1 : i = 78 := (nI_eq (a := i) (b := 78) (by omega) (by decide)).mp c1
      refine mjZ_y rfl rfl 2 _ _ _ _ ty ?_
      refine And.intro rfl (And.intro (Or.inr ⟨rfl, Or.inr rfl⟩) ?_)
      exact ⟨by rw [show lgB i = true from decide_eq_true (by omega)]; rfl, rfl⟩
    · have c1 : ¬ (i = 78) := fun z => c1 ((nI_eq (a := i) (b := 78) (by omega) (by decide)).mpr z)
      refine mjZ_y rfl rfl 3 _ _ _ _ ty ?_
      refine And.intro (fun c2 => ?_) (fun c2 => ?_)
      · have c2 : i = 79 := (nI_eq (a := i) (b := 79) (by omega) (by decide)).mp c2
        refine mjZ_y rfl rfl 2 _ _ _ _ ty ?_
        refine And.intro rfl (And.intro (Or.inr ⟨rfl, Or.inr rfl⟩) ?_)
        exact ⟨by rw [show lgB i = true from decide_eq_true (by omega)]; rfl, rfl⟩
      · have c2 : ¬ (i = 79) := fun z => c2 ((nI_eq (a := i) (b := 79) (by omega) (by decide)).mpr z)
        refine mjZ_y rfl rfl 3 _ _ _ _ ty ?_
        refine And.intro (fun c3 => ?_) (fun c3 => ?_)
        · have c3 : ¬ i = 81 := fun z => c3 ((nI_eq (a := i) (b := 81) (by omega) (by decide)).mpr z)
          refine mjZ_y rfl rfl 3 _ _ _ _ ty ?_
          refine And.intro (fun c4 => ?_) (fun c4 => ?_)
          · have c4 : i = 90 := (nI_eq (a := i) (b := 90) (by omega) (by decide)).mp c4
            refine mjZ_y rfl rfl 3 _ _ _ _ ty ?_
            refine And.intro rfl (And.intro (Or.inr ⟨rfl, Or.inr rfl⟩) ?_)
            exact ⟨by rw [show lgB i = true from decide_eq_true (by omega)]; rfl, rfl⟩
          · have c4 : ¬ (i = 90) := fun z => c4 ((nI_eq (a := i) (b := 90) (by omega) (by decide)).mpr z)
            refine mjZ_y rfl rfl 3 _ _ _ _ ty ?_
            refine And.intro (fun c5 => ?_) (fun c5 => ?_)
            · have c5 : i = 91 := (nI_eq (a := i) (b := 91) (by omega) (by decide)).mp c5
              refine mjZ_y rfl rfl 3 _ _ _ _ ty ?_
              refine And.intro rfl (And.intro (Or.inr ⟨rfl, Or.inr rfl⟩) ?_)
              exact ⟨by rw [show lgB i = true from decide_eq_true (by omega)]; rfl, rfl⟩
            · have c5 : ¬ (i = 91) := fun z => c5 ((nI_eq (a := i) (b := 91) (by omega) (by decide)).mpr z)
              refine mjZ_y rfl rfl 3 _ _ _ _ ty ?_
              refine And.intro (fun c6 => ?_) (fun c6 => ?_)
              · have c6 : i = 92 := (nI_eq (a := i) (b := 92) (by omega) (by decide)).mp c6
                refine mjZ_y rfl rfl 3 _ _ _ _ ty ?_
                refine And.intro rfl (And.intro (Or.inr ⟨rfl, Or.inr rfl⟩) ?_)
                exact ⟨by rw [show lgB i = true from decide_eq_true (by omega)]; rfl, rfl⟩
              · have c6 : ¬ (i = 92) := fun z => c6 ((nI_eq (a := i) (b := 92) (by omega) (by decide)).mpr z)
                refine mjZ_y rfl rfl 3 _ _ _ _ ty ?_
                refine And.intro (fun c7 => ?_) (fun c7 => ?_)
                · have c7 : ¬ i = 93 := fun z => c7 ((nI_eq (a := i) (b := 93) (by omega) (by decide)).mpr z)
                  refine mjZ_y rfl rfl 2 _ _ _ _ ty ?_
                  refine And.intro rfl (And.intro (Or.inr ⟨rfl, Or.inl rfl⟩) ?_)
                  exact ⟨by rw [show lgB i = false from decide_eq_false (by omega)]; rfl, rfl⟩
                · have c7 : i = 93 := (nI_eq (a := i) (b := 93) (by omega) (by decide)).mp (Decidable.of_not_not c7)
                  refine mjZ_y rfl rfl 3 _ _ _ _ ty ?_
                  refine And.intro rfl (And.intro (Or.inr ⟨rfl, Or.inr rfl⟩) ?_)
                  exact ⟨by rw [show lgB i = true from decide_eq_true (by omega)]; rfl, rfl⟩
        · have c3 : i = 81 := (nI_eq (a := i) (b := 81) (by omega) (by decide)).mp (Decidable.of_not_not c3)
          refine mjZ_y rfl rfl 2 _ _ _ _ ty ?_
          refine And.intro rfl (And.intro (Or.inr ⟨rfl, Or.inr rfl⟩) ?_)
          exact ⟨by rw [show lgB i = true from decide_eq_true (by omega)]; rfl, rfl⟩
  have s57 : ¬ (2 ≤ i ∧ i ≤ 7) ∧ ¬ (9 ≤ i ∧ i ≤ 10) ∧ ¬ i = 11 ∧ ¬ (14 ≤ i ∧ i ≤ 19) ∧ ¬ i = 22 ∧ ¬ i = 25 ∧ ¬ i = 26 ∧ ¬ i = 29 ∧ ¬ i = 33 ∧ ¬ i = 34 ∧ ¬ (37 ≤ i ∧ i ≤ 42) ∧ ¬ (46 ≤ i ∧ i ≤ 51) → mjY mjPP (mjQQ Y) d 185 57 [some (.int (nI i))] [] σ (fun r u => r = some (.int (bI (lgB i))) ∧ u = σ) := by
    intro f57
    refine mjZ_y rfl rfl 3 _ _ _ _ ty ?_
    refine And.intro (fun c8 => ?_) (fun c8 => ?_)
    · have c8 : i = 52 := (nI_eq (a := i) (b := 52) (by omega) (by decide)).mp c8
      refine mjZ_y rfl rfl 2 _ _ _ _ ty ?_
      refine And.intro rfl (And.intro (Or.inr ⟨rfl, Or.inr rfl⟩) ?_)
      exact ⟨by rw [show lgB i = true from decide_eq_true (by omega)]; rfl, rfl⟩
    · have c8 : ¬ (i = 52) := fun z => c8 ((nI_eq (a := i) (b := 52) (by omega) (by decide)).mpr z)
      refine mjZ_y rfl rfl 3 _ _ _ _ ty ?_
      refine And.intro (fun c9 => ?_) (fun c9 => ?_)
      · have c9 : i = 53 := (nI_eq (a := i) (b := 53) (by omega) (by decide)).mp c9
        refine mjZ_y rfl rfl 2 _ _ _ _ ty ?_
        refine And.intro rfl (And.intro (Or.inr ⟨rfl, Or.inr rfl⟩) ?_)
        exact ⟨by rw [show lgB i = true from decide_eq_true (by omega)]; rfl, rfl⟩
      · have c9 : ¬ (i = 53) := fun z => c9 ((nI_eq (a := i) (b := 53) (by omega) (by decide)).mpr z)
        refine mjZ_y rfl rfl 3 _ _ _ _ ty ?_
        refine And.intro (fun c10 => ?_) (fun c10 => ?_)
        · have c10 : i = 56 := (nI_eq (a := i) (b := 56) (by omega) (by decide)).mp c10
          refine mjZ_y rfl rfl 2 _ _ _ _ ty ?_
          refine And.intro rfl (And.intro (Or.inr ⟨rfl, Or.inr rfl⟩) ?_)
          exact ⟨by rw [show lgB i = true from decide_eq_true (by omega)]; rfl, rfl⟩
        · have c10 : ¬ (i = 56) := fun z => c10 ((nI_eq (a := i) (b := 56) (by omega) (by decide)).mpr z)
          refine mjZ_y rfl rfl 3 _ _ _ _ ty ?_
          refine And.intro (fun c11 => ?_) (fun c11 => ?_)
          · have c11 : i = 63 := (nI_eq (a := i) (b := 63) (by omega) (by decide)).mp c11
            refine mjZ_y rfl rfl 2 _ _ _ _ ty ?_
            refine And.intro rfl (And.intro (Or.inr ⟨rfl, Or.inr rfl⟩) ?_)
            exact ⟨by rw [show lgB i = true from decide_eq_true (by omega)]; rfl, rfl⟩
          · have c11 : ¬ (i = 63) := fun z => c11 ((nI_eq (a := i) (b := 63) (by omega) (by decide)).mpr z)
            refine mjZ_y rfl rfl 3 _ _ _ _ ty ?_
            refine And.intro (fun c12 => ?_) (fun c12 => ?_)
            · have c12 : i = 64 := (nI_eq (a := i) (b := 64) (by omega) (by decide)).mp c12
              refine mjZ_y rfl rfl 2 _ _ _ _ ty ?_
              refine And.intro rfl (And.intro (Or.inr ⟨rfl, Or.inr rfl⟩) ?_)
              exact ⟨by rw [show lgB i = true from decide_eq_true (by omega)]; rfl, rfl⟩
            · have c12 : ¬ (i = 64) := fun z => c12 ((nI_eq (a := i) (b := 64) (by omega) (by decide)).mpr z)
              refine mjZ_y rfl rfl 3 _ _ _ _ ty ?_
              refine And.intro (fun c13 => ?_) (fun c13 => ?_)
              · have c13 : i = 65 := (nI_eq (a := i) (b := 65) (by omega) (by decide)).mp c13
                refine mjZ_y rfl rfl 2 _ _ _ _ ty ?_
                refine And.intro rfl (And.intro (Or.inr ⟨rfl, Or.inr rfl⟩) ?_)
                exact ⟨by rw [show lgB i = true from decide_eq_true (by omega)]; rfl, rfl⟩
              · have c13 : ¬ (i = 65) := fun z => c13 ((nI_eq (a := i) (b := 65) (by omega) (by decide)).mpr z)
                refine mjZ_y rfl rfl 3 _ _ _ _ ty ?_
                refine And.intro (fun c14 => ?_) (fun c14 => ?_)
                · have c14 : i = 70 := (nI_eq (a := i) (b := 70) (by omega) (by decide)).mp c14
                  refine mjZ_y rfl rfl 2 _ _ _ _ ty ?_
                  refine And.intro rfl (And.intro (Or.inr ⟨rfl, Or.inr rfl⟩) ?_)
                  exact ⟨by rw [show lgB i = true from decide_eq_true (by omega)]; rfl, rfl⟩
                · have c14 : ¬ (i = 70) := fun z => c14 ((nI_eq (a := i) (b := 70) (by omega) (by decide)).mpr z)
                  refine mjZ_y rfl rfl 3 _ _ _ _ ty ?_
                  refine And.intro (fun c15 => ?_) (fun c15 => ?_)
                  · have c15 : ¬ i = 77 := fun z => c15 ((nI_eq (a := i) (b := 77) (by omega) (by decide)).mpr z)
                    refine mjZ_y rfl rfl 3 _ _ _ _ ty ?_
                    refine And.intro (fun c16 => ?_) (fun c16 => ?_)
                    · have c16 : i < 74 := (ltJ hi (k := 74) (by decide)).mp c16
                      exact s89 (by omega)
                    · have c16 : ¬ (i < 74) := fun z => c16 ((ltJ hi (k := 74) (by decide)).mpr z)
                      refine mjZ_y rfl rfl 3 _ _ _ _ ty ?_
                      refine And.intro (fun c17 => ?_) (fun c17 => ?_)
                      · have c17 : i ≤ 76 := (leJ hi (k := 76) (by decide)).mp c17
                        refine mjZ_y rfl rfl 2 _ _ _ _ ty ?_
                        refine And.intro rfl (And.intro (Or.inr ⟨rfl, Or.inr rfl⟩) ?_)
                        exact ⟨by rw [show lgB i = true from decide_eq_true (by omega)]; rfl, rfl⟩
                      · have c17 : ¬ (i ≤ 76) := fun z => c17 ((leJ hi (k := 76) (by decide)).mpr z)
                        exact s89 (by omega)
                  · have c15 : i = 77 := (nI_eq (a := i) (b := 77) (by omega) (by decide)).mp (Decidable.of_not_not c15)
                    refine mjZ_y rfl rfl 2 _ _ _ _ ty ?_
                    refine And.intro rfl (And.intro (Or.inr ⟨rfl, Or.inr rfl⟩) ?_)
                    exact ⟨by rw [show lgB i = true from decide_eq_true (by omega)]; rfl, rfl⟩
  have s49 : ¬ (2 ≤ i ∧ i ≤ 7) ∧ ¬ (9 ≤ i ∧ i ≤ 10) ∧ ¬ i = 11 ∧ ¬ (14 ≤ i ∧ i ≤ 19) ∧ ¬ i = 22 ∧ ¬ i = 25 ∧ ¬ i = 26 ∧ ¬ i = 29 ∧ ¬ i = 33 ∧ ¬ i = 34 ∧ ¬ (37 ≤ i ∧ i ≤ 42) → mjY mjPP (mjQQ Y) d 185 49 [some (.int (nI i))] [] σ (fun r u => r = some (.int (bI (lgB i))) ∧ u = σ) := by
    intro f49
    refine mjZ_y rfl rfl 3 _ _ _ _ ty ?_
    refine And.intro (fun c18 => ?_) (fun c18 => ?_)
    · have c18 : i < 46 := (ltJ hi (k := 46) (by decide)).mp c18
      exact s57 (by omega)
    · have c18 : ¬ (i < 46) := fun z => c18 ((ltJ hi (k := 46) (by decide)).mpr z)
      refine mjZ_y rfl rfl 3 _ _ _ _ ty ?_
      refine And.intro (fun c19 => ?_) (fun c19 => ?_)
      · have c19 : 51 < i := (gtJ hi (k := 51) (by decide)).mp c19
        exact s57 (by omega)
      · have c19 : ¬ (51 < i) := fun z => c19 ((gtJ hi (k := 51) (by decide)).mpr z)
        refine mjZ_y rfl rfl 2 _ _ _ _ ty ?_
        refine And.intro rfl (And.intro (Or.inr ⟨rfl, Or.inr rfl⟩) ?_)
        exact ⟨by rw [show lgB i = true from decide_eq_true (by omega)]; rfl, rfl⟩
  have s23 : ¬ (2 ≤ i ∧ i ≤ 7) ∧ ¬ (9 ≤ i ∧ i ≤ 10) ∧ ¬ i = 11 ∧ ¬ (14 ≤ i ∧ i ≤ 19) → mjY mjPP (mjQQ Y) d 185 23 [some (.int (nI i))] [] σ (fun r u => r = some (.int (bI (lgB i))) ∧ u = σ) := by
    intro f23
    refine mjZ_y rfl rfl 3 _ _ _ _ ty ?_
    refine And.intro (fun c20 => ?_) (fun c20 => ?_)
    · have c20 : i = 22 := (nI_eq (a := i) (b := 22) (by omega) (by decide)).mp c20
      refine mjZ_y rfl rfl 2 _ _ _ _ ty ?_
      refine And.intro rfl (And.intro (Or.inr ⟨rfl, Or.inr rfl⟩) ?_)
      exact ⟨by rw [show lgB i = true from decide_eq_true (by omega)]; rfl, rfl⟩
    · have c20 : ¬ (i = 22) := fun z => c20 ((nI_eq (a := i) (b := 22) (by omega) (by decide)).mpr z)
      refine mjZ_y rfl rfl 3 _ _ _ _ ty ?_
      refine And.intro (fun c21 => ?_) (fun c21 => ?_)
      · have c21 : i = 25 := (nI_eq (a := i) (b := 25) (by omega) (by decide)).mp c21
        refine mjZ_y rfl rfl 2 _ _ _ _ ty ?_
        refine And.intro rfl (And.intro (Or.inr ⟨rfl, Or.inr rfl⟩) ?_)
        exact ⟨by rw [show lgB i = true from decide_eq_true (by omega)]; rfl, rfl⟩
      · have c21 : ¬ (i = 25) := fun z => c21 ((nI_eq (a := i) (b := 25) (by omega) (by decide)).mpr z)
        refine mjZ_y rfl rfl 3 _ _ _ _ ty ?_
        refine And.intro (fun c22 => ?_) (fun c22 => ?_)
        · have c22 : i = 26 := (nI_eq (a := i) (b := 26) (by omega) (by decide)).mp c22
          refine mjZ_y rfl rfl 2 _ _ _ _ ty ?_
          refine And.intro rfl (And.intro (Or.inr ⟨rfl, Or.inr rfl⟩) ?_)
          exact ⟨by rw [show lgB i = true from decide_eq_true (by omega)]; rfl, rfl⟩
        · have c22 : ¬ (i = 26) := fun z => c22 ((nI_eq (a := i) (b := 26) (by omega) (by decide)).mpr z)
          refine mjZ_y rfl rfl 3 _ _ _ _ ty ?_
          refine And.intro (fun c23 => ?_) (fun c23 => ?_)
          · have c23 : i = 29 := (nI_eq (a := i) (b := 29) (by omega) (by decide)).mp c23
            refine mjZ_y rfl rfl 2 _ _ _ _ ty ?_
            refine And.intro rfl (And.intro (Or.inr ⟨rfl, Or.inr rfl⟩) ?_)
            exact ⟨by rw [show lgB i = true from decide_eq_true (by omega)]; rfl, rfl⟩
          · have c23 : ¬ (i = 29) := fun z => c23 ((nI_eq (a := i) (b := 29) (by omega) (by decide)).mpr z)
            refine mjZ_y rfl rfl 3 _ _ _ _ ty ?_
            refine And.intro (fun c24 => ?_) (fun c24 => ?_)
            · have c24 : i = 33 := (nI_eq (a := i) (b := 33) (by omega) (by decide)).mp c24
              refine mjZ_y rfl rfl 2 _ _ _ _ ty ?_
              refine And.intro rfl (And.intro (Or.inr ⟨rfl, Or.inr rfl⟩) ?_)
              exact ⟨by rw [show lgB i = true from decide_eq_true (by omega)]; rfl, rfl⟩
            · have c24 : ¬ (i = 33) := fun z => c24 ((nI_eq (a := i) (b := 33) (by omega) (by decide)).mpr z)
              refine mjZ_y rfl rfl 3 _ _ _ _ ty ?_
              refine And.intro (fun c25 => ?_) (fun c25 => ?_)
              · have c25 : ¬ i = 34 := fun z => c25 ((nI_eq (a := i) (b := 34) (by omega) (by decide)).mpr z)
                refine mjZ_y rfl rfl 3 _ _ _ _ ty ?_
                refine And.intro (fun c26 => ?_) (fun c26 => ?_)
                · have c26 : i < 37 := (ltJ hi (k := 37) (by decide)).mp c26
                  exact s49 (by omega)
                · have c26 : ¬ (i < 37) := fun z => c26 ((ltJ hi (k := 37) (by decide)).mpr z)
                  refine mjZ_y rfl rfl 3 _ _ _ _ ty ?_
                  refine And.intro (fun c27 => ?_) (fun c27 => ?_)
                  · have c27 : i ≤ 42 := (leJ hi (k := 42) (by decide)).mp c27
                    refine mjZ_y rfl rfl 2 _ _ _ _ ty ?_
                    refine And.intro rfl (And.intro (Or.inr ⟨rfl, Or.inr rfl⟩) ?_)
                    exact ⟨by rw [show lgB i = true from decide_eq_true (by omega)]; rfl, rfl⟩
                  · have c27 : ¬ (i ≤ 42) := fun z => c27 ((leJ hi (k := 42) (by decide)).mpr z)
                    exact s49 (by omega)
              · have c25 : i = 34 := (nI_eq (a := i) (b := 34) (by omega) (by decide)).mp (Decidable.of_not_not c25)
                refine mjZ_y rfl rfl 2 _ _ _ _ ty ?_
                refine And.intro rfl (And.intro (Or.inr ⟨rfl, Or.inr rfl⟩) ?_)
                exact ⟨by rw [show lgB i = true from decide_eq_true (by omega)]; rfl, rfl⟩
  have s12 : ¬ (2 ≤ i ∧ i ≤ 7) ∧ ¬ (9 ≤ i ∧ i ≤ 10) → mjY mjPP (mjQQ Y) d 185 12 [some (.int (nI i))] [] σ (fun r u => r = some (.int (bI (lgB i))) ∧ u = σ) := by
    intro f12
    refine mjZ_y rfl rfl 3 _ _ _ _ ty ?_
    refine And.intro (fun c28 => ?_) (fun c28 => ?_)
    · have c28 : i = 11 := (nI_eq (a := i) (b := 11) (by omega) (by decide)).mp c28
      refine mjZ_y rfl rfl 2 _ _ _ _ ty ?_
      refine And.intro rfl (And.intro (Or.inr ⟨rfl, Or.inr rfl⟩) ?_)
      exact ⟨by rw [show lgB i = true from decide_eq_true (by omega)]; rfl, rfl⟩
    · have c28 : ¬ (i = 11) := fun z => c28 ((nI_eq (a := i) (b := 11) (by omega) (by decide)).mpr z)
      refine mjZ_y rfl rfl 3 _ _ _ _ ty ?_
      refine And.intro (fun c29 => ?_) (fun c29 => ?_)
      · have c29 : i < 14 := (ltJ hi (k := 14) (by decide)).mp c29
        exact s23 (by omega)
      · have c29 : ¬ (i < 14) := fun z => c29 ((ltJ hi (k := 14) (by decide)).mpr z)
        refine mjZ_y rfl rfl 3 _ _ _ _ ty ?_
        refine And.intro (fun c30 => ?_) (fun c30 => ?_)
        · have c30 : 19 < i := (gtJ hi (k := 19) (by decide)).mp c30
          exact s23 (by omega)
        · have c30 : ¬ (19 < i) := fun z => c30 ((gtJ hi (k := 19) (by decide)).mpr z)
          refine mjZ_y rfl rfl 2 _ _ _ _ ty ?_
          refine And.intro rfl (And.intro (Or.inr ⟨rfl, Or.inr rfl⟩) ?_)
          exact ⟨by rw [show lgB i = true from decide_eq_true (by omega)]; rfl, rfl⟩
  have s6 : ¬ (2 ≤ i ∧ i ≤ 7) → mjY mjPP (mjQQ Y) d 185 6 [some (.int (nI i))] [] σ (fun r u => r = some (.int (bI (lgB i))) ∧ u = σ) := by
    intro f6
    refine mjZ_y rfl rfl 3 _ _ _ _ ty ?_
    refine And.intro (fun c31 => ?_) (fun c31 => ?_)
    · have c31 : i < 9 := (ltJ hi (k := 9) (by decide)).mp c31
      exact s12 (by omega)
    · have c31 : ¬ (i < 9) := fun z => c31 ((ltJ hi (k := 9) (by decide)).mpr z)
      refine mjZ_y rfl rfl 3 _ _ _ _ ty ?_
      refine And.intro (fun c32 => ?_) (fun c32 => ?_)
      · have c32 : i ≤ 10 := (leJ hi (k := 10) (by decide)).mp c32
        refine mjZ_y rfl rfl 2 _ _ _ _ ty ?_
        refine And.intro rfl (And.intro (Or.inr ⟨rfl, Or.inr rfl⟩) ?_)
        exact ⟨by rw [show lgB i = true from decide_eq_true (by omega)]; rfl, rfl⟩
      · have c32 : ¬ (i ≤ 10) := fun z => c32 ((leJ hi (k := 10) (by decide)).mpr z)
        exact s12 (by omega)
  refine mjZ_y rfl rfl 3 _ _ _ _ ty ?_
  refine And.intro (fun c33 => ?_) (fun c33 => ?_)
  · have c33 : i < 2 := (ltJ hi (k := 2) (by decide)).mp c33
    exact s6 (by omega)
  · have c33 : ¬ (i < 2) := fun z => c33 ((ltJ hi (k := 2) (by decide)).mpr z)
    refine mjZ_y rfl rfl 3 _ _ _ _ ty ?_
    refine And.intro (fun c34 => ?_) (fun c34 => ?_)
    · have c34 : i ≤ 7 := (leJ hi (k := 7) (by decide)).mp c34
      refine mjZ_y rfl rfl 2 _ _ _ _ ty ?_
      refine And.intro rfl (And.intro (Or.inr ⟨rfl, Or.inr rfl⟩) ?_)
      exact ⟨by rw [show lgB i = true from decide_eq_true (by omega)]; rfl, rfl⟩
    · have c34 : ¬ (i ≤ 7) := fun z => c34 ((leJ hi (k := 7) (by decide)).mpr z)
      exact s6 (by omega)
end LOGGED
