/-! What Math.min and Math.max answer, by their tables. -/
section KMATH
theorem mt_N : kMN (kQQ kYN) := ⟨rfl, rfl, rfl, rfl⟩
theorem mjAr_ge : ∀ ar : List Value, ar.length ≤ (mjAr ar).length
  | [] => Nat.le_refl _
  | v :: r => by
    have ih := mjAr_ge r
    show r.length + 1 ≤ (if v.category = 2 then some v :: none :: mjAr r else some v :: mjAr r).length
    by_cases c : v.category = 2
    · rw [if_pos c]; simp only [List.length_cons]; omega
    · rw [if_neg c]; simp only [List.length_cons]; omega
theorem ar_2 {ar : List Value} (h : (mjAr ar).length ≤ 2) : ar = [] ∨ (∃ v, ar = [v]) ∨ (∃ v w, ar = [v, w]) := by
  cases ar with
  | nil => exact Or.inl rfl
  | cons v r =>
    cases r with
    | nil => exact Or.inr (Or.inl ⟨v, rfl⟩)
    | cons w r =>
      cases r with
      | nil => exact Or.inr (Or.inr ⟨v, w, rfl⟩)
      | cons x r =>
        have := mjAr_ge (v :: w :: x :: r)
        simp only [List.length_cons] at this
        omega
theorem mt_300 {f d : Nat} {ar : List Value} {σ : kS} {K : kK} (ha : (mjAr ar).length ≤ 2) (h : kjX kPP (kQQ kYN) f d 300 0 (mjL0 2 ar) [] σ K) : kMR 300 ar σ K := by
  rcases ar_2 ha with rfl | ⟨v, rfl⟩ | ⟨v, w, rfl⟩
  · rcases f with _ | f <;> exact False.elim h
  · rcases f with _ | _ | f
    · exact False.elim h
    · cases v <;> exact False.elim h
    · cases v <;> exact False.elim h
  · rcases f with _ | _ | _ | f
    · exact False.elim h
    · cases v <;> exact False.elim h
    · cases v <;> cases w <;> exact False.elim h
    · cases v with
      | int a =>
        cases w with
        | int b =>
          refine Or.inl ⟨rfl, a, b, rfl, ?_⟩
          have h : (a < b → kjX kPP (kQQ kYN) f d 300 5 [some (.int a), some (.int b)] [] σ K) ∧ (¬ a < b → kjX kPP (kQQ kYN) f d 300 3 [some (.int a), some (.int b)] [] σ K) := h
          by_cases c : a < b
          · have h := h.1 c
            rw [if_pos c]
            rcases f with _ | _ | f
            · exact False.elim h
            · exact False.elim h
            · exact h.2.2
          · have h := h.2 c
            rw [if_neg c]
            rcases f with _ | _ | _ | f
            · exact False.elim h
            · exact False.elim h
            · exact False.elim h
            · exact h.2.2
        | _ => exact False.elim h
      | _ => exact False.elim h
theorem mt_301 {f d : Nat} {ar : List Value} {σ : kS} {K : kK} (ha : (mjAr ar).length ≤ 2) (h : kjX kPP (kQQ kYN) f d 301 0 (mjL0 2 ar) [] σ K) : kMR 301 ar σ K := by
  rcases ar_2 ha with rfl | ⟨v, rfl⟩ | ⟨v, w, rfl⟩
  · rcases f with _ | f <;> exact False.elim h
  · rcases f with _ | _ | f
    · exact False.elim h
    · cases v <;> exact False.elim h
    · cases v <;> exact False.elim h
  · rcases f with _ | _ | _ | f
    · exact False.elim h
    · cases v <;> exact False.elim h
    · cases v <;> cases w <;> exact False.elim h
    · cases v with
      | int a =>
        cases w with
        | int b =>
          refine Or.inr (Or.inl ⟨rfl, a, b, rfl, ?_⟩)
          have h : (b < a → kjX kPP (kQQ kYN) f d 301 5 [some (.int a), some (.int b)] [] σ K) ∧ (¬ b < a → kjX kPP (kQQ kYN) f d 301 3 [some (.int a), some (.int b)] [] σ K) := h
          by_cases c : b < a
          · have h := h.1 c
            rw [if_pos c]
            rcases f with _ | _ | f
            · exact False.elim h
            · exact False.elim h
            · exact h.2.2
          · have h := h.2 c
            rw [if_neg c]
            rcases f with _ | _ | _ | f
            · exact False.elim h
            · exact False.elim h
            · exact False.elim h
            · exact h.2.2
        | _ => exact False.elim h
      | _ => exact False.elim h
/-- two longs at the most -/
theorem ar_4 {ar : List Value} (h : (mjAr ar).length ≤ 4) (h0 : ∃ a, (mjL0 4 ar)[0]? = some (some (.long a))) (h2 : ∃ b, (mjL0 4 ar)[2]? = some (some (.long b))) : ∃ a b, ar = [.long a, .long b] := by
  obtain ⟨a, h0⟩ := h0
  obtain ⟨b, h2⟩ := h2
  cases ar with
  | nil => cases h0
  | cons v r =>
    cases v with
    | long a' =>
      cases r with
      | nil => cases h2
      | cons w r =>
        cases w with
        | long b' =>
          cases r with
          | nil => exact ⟨a', b', rfl⟩
          | cons x r =>
            have e : (mjAr (.long a' :: .long b' :: x :: r)).length = (mjAr (x :: r)).length + 4 := rfl
            have := mjAr_ge (x :: r)
            simp only [List.length_cons] at this
            omega
        | _ => cases h2
    | _ => cases h0
theorem mt_302 {f d : Nat} {ar : List Value} {σ : kS} {K : kK} (ha : (mjAr ar).length ≤ 4) (h : kjX kPP (kQQ kYN) f d 302 0 (mjL0 4 ar) [] σ K) : kMR 302 ar σ K := by
  have hx : ∃ a b, ar = [.long a, .long b] := by
    rcases f with _ | _ | f
    · exact False.elim h
    · exfalso
      generalize mjL0 4 ar = lv at h
      rcases lv with _ | ⟨x0, _ | ⟨x1, lv⟩⟩
      · exact h
      · cases x0 with
        | none => exact h
        | some v => cases v <;> exact h
      · cases x0 with
        | none => exact h
        | some v => cases v <;> exact h
    · refine ar_4 ha ?_ ?_
      · generalize mjL0 4 ar = lv at h ⊢
        rcases lv with _ | ⟨x0, lv⟩
        · exact False.elim h
        · cases x0 with
          | none => exact False.elim h
          | some v =>
            cases v with
            | long a => exact ⟨a, rfl⟩
            | _ => exact False.elim h
      · generalize mjL0 4 ar = lv at h ⊢
        rcases lv with _ | ⟨x0, lv⟩
        · exact False.elim h
        · cases x0 with
          | none => exact False.elim h
          | some v =>
            cases v with
            | long a =>
              rcases lv with _ | ⟨x1, _ | ⟨x2, lv⟩⟩
              · exact False.elim h
              · exact False.elim h
              · cases x2 with
                | none => exact False.elim h
                | some w =>
                  cases w with
                  | long b => exact ⟨b, rfl⟩
                  | _ => exact False.elim h
            | _ => exact False.elim h
  obtain ⟨a, b, rfl⟩ := hx
  refine Or.inr (Or.inr (Or.inl ⟨rfl, a, b, rfl, ?_⟩))
  rcases f with _ | _ | _ | _ | f
  · exact False.elim h
  · exact False.elim h
  · exact False.elim h
  · exact False.elim h
  have h : (lg_cmp a b < 0 → kjX kPP (kQQ kYN) f d 302 6 [some (.long a), none, some (.long b), none] [] σ K) ∧ (¬ lg_cmp a b < 0 → kjX kPP (kQQ kYN) f d 302 4 [some (.long a), none, some (.long b), none] [] σ K) := h
  by_cases c : lg_cmp a b < 0
  · have h := h.1 c
    have c2 : ¬ b < a := fun z => absurd ((lg_cmp_ge a b).mpr (Int64.le_of_lt z)) (Int32.not_le.mpr c)
    rw [if_neg c2]
    rcases f with _ | _ | f
    · exact False.elim h
    · exact False.elim h
    · exact h.2.2
  · have h := h.2 c
    have c3 : b ≤ a := (lg_cmp_ge a b).mp (Int32.not_lt.mp c)
    have e : (if b < a then a else b) = a := by
      by_cases c2 : b < a
      · rw [if_pos c2]
      · rw [if_neg c2]; exact Int64.le_antisymm c3 (Int64.not_lt.mp c2)
    rw [e]
    rcases f with _ | _ | _ | f
    · exact False.elim h
    · exact False.elim h
    · exact False.elim h
    · exact h.2.2
theorem mt_303 {f d : Nat} {ar : List Value} {σ : kS} {K : kK} (ha : (mjAr ar).length ≤ 4) (h : kjX kPP (kQQ kYN) f d 303 0 (mjL0 4 ar) [] σ K) : kMR 303 ar σ K := by
  have hx : ∃ a b, ar = [.long a, .long b] := by
    rcases f with _ | _ | f
    · exact False.elim h
    · exfalso
      generalize mjL0 4 ar = lv at h
      rcases lv with _ | ⟨x0, _ | ⟨x1, lv⟩⟩
      · exact h
      · cases x0 with
        | none => exact h
        | some v => cases v <;> exact h
      · cases x0 with
        | none => exact h
        | some v => cases v <;> exact h
    · refine ar_4 ha ?_ ?_
      · generalize mjL0 4 ar = lv at h ⊢
        rcases lv with _ | ⟨x0, lv⟩
        · exact False.elim h
        · cases x0 with
          | none => exact False.elim h
          | some v =>
            cases v with
            | long a => exact ⟨a, rfl⟩
            | _ => exact False.elim h
      · generalize mjL0 4 ar = lv at h ⊢
        rcases lv with _ | ⟨x0, lv⟩
        · exact False.elim h
        · cases x0 with
          | none => exact False.elim h
          | some v =>
            cases v with
            | long a =>
              rcases lv with _ | ⟨x1, _ | ⟨x2, lv⟩⟩
              · exact False.elim h
              · exact False.elim h
              · cases x2 with
                | none => exact False.elim h
                | some w =>
                  cases w with
                  | long b => exact ⟨b, rfl⟩
                  | _ => exact False.elim h
            | _ => exact False.elim h
  obtain ⟨a, b, rfl⟩ := hx
  refine Or.inr (Or.inr (Or.inr ⟨rfl, a, b, rfl, ?_⟩))
  rcases f with _ | _ | _ | _ | f
  · exact False.elim h
  · exact False.elim h
  · exact False.elim h
  · exact False.elim h
  have h : (0 < lg_cmp a b → kjX kPP (kQQ kYN) f d 303 6 [some (.long a), none, some (.long b), none] [] σ K) ∧ (¬ 0 < lg_cmp a b → kjX kPP (kQQ kYN) f d 303 4 [some (.long a), none, some (.long b), none] [] σ K) := h
  by_cases c : 0 < lg_cmp a b
  · have h := h.1 c
    rw [if_pos ((lg_cmp_gt a b).mp c)]
    rcases f with _ | _ | f
    · exact False.elim h
    · exact False.elim h
    · exact h.2.2
  · have h := h.2 c
    rw [if_neg (fun z => c ((lg_cmp_gt a b).mpr z))]
    rcases f with _ | _ | _ | f
    · exact False.elim h
    · exact False.elim h
    · exact False.elim h
    · exact h.2.2
theorem mt_R : ∀ x ∈ MTH, ∀ f d ar σ K, (mjAr ar).length ≤ (kQQ kYN x).2.2.2.1 → kjX kPP (kQQ kYN) f d x 0 (mjL0 (kQQ kYN x).2.2.2.1 ar) [] σ K → kMR x ar σ K := by
  intro x hx f d ar σ K ha h
  have q : x = 300 ∨ x = 301 ∨ x = 302 ∨ x = 303 := by
    have : ∀ x ∈ MTH, x = 300 ∨ x = 301 ∨ x = 302 ∨ x = 303 := by decide
    exact this x hx
  rcases q with rfl | rfl | rfl | rfl
  · exact mt_300 ha h
  · exact mt_301 ha h
  · exact mt_302 ha h
  · exact mt_303 ha h
end KMATH
