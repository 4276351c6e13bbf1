/-! Where the reference puts a member into a line. -/
theorem rkR_app (s : Int64) (v : List Int32) : ∀ (A B : List AE), (∀ z ∈ A, s < z.2.2 ∨ (z.2.2 = s ∧ 0 < cmpW z.1 v)) → (∀ z ∈ B, ¬ (s < z.2.2 ∨ (z.2.2 = s ∧ 0 < cmpW z.1 v))) → rkR s v (A ++ B) = A.length := by
  intro A
  induction A with
  | nil =>
    intro B _ hB
    cases B with
    | nil => rfl
    | cons b r =>
      show (if s < b.2.2 ∨ (b.2.2 = s ∧ 0 < cmpW b.1 v) then rkR s v r + 1 else 0) = 0
      rw [if_neg (hB b List.mem_cons_self)]
  | cons a r ih =>
    intro B hA hB
    show (if s < a.2.2 ∨ (a.2.2 = s ∧ 0 < cmpW a.1 v) then rkR s v (r ++ B) + 1 else 0) = r.length + 1
    rw [if_pos (hA a List.mem_cons_self), ih B (fun z hz => hA z (List.mem_cons_of_mem _ hz)) hB]
theorem rkE_lp {s : Int64} {v : List Int32} {es : List AE} {j : Nat} (h : lpP s v es j) (hn : ∀ z ∈ es, ¬ cmpW z.1 v = 0) : rkE s v es = insL es j (v, [], s) := by
  obtain ⟨h1, h2, h3⟩ := h
  have er : es.reverse = (es.drop j).reverse ++ (es.take j).reverse := by rw [← List.reverse_append, List.take_append_drop]
  have hr : rkR s v es.reverse = es.length - j := by
    rw [er, rkR_app s v _ _ (fun z hz => ?_) (fun z hz hc => ?_), List.length_reverse, List.length_drop]
    · have hz := List.mem_reverse.mp hz
      obtain ⟨i, hi, g⟩ := List.mem_iff_getElem.mp hz
      rw [List.length_drop] at hi
      rw [List.getElem_drop] at g
      have hg : es[j + i]? = some z := by rw [List.getElem?_eq_getElem (by omega), g]
      have hb := h3 (j + i) z (by omega) hg
      have h0 := hn z (List.mem_of_getElem? hg)
      unfold lpB at hb
      by_cases c : z.2.2 = s
      · refine Or.inr ⟨c, ?_⟩
        have : ¬ cmpW z.1 v < 0 := fun q => hb (Or.inr ⟨c, q⟩)
        omega
      · left
        rcases Int64.lt_or_lt_of_ne c with k | k
        · exact absurd (Or.inl k) hb
        · exact k
    · have hz := List.mem_reverse.mp hz
      obtain ⟨i, hi, g⟩ := List.mem_iff_getElem.mp hz
      rw [List.length_take] at hi
      rw [List.getElem_take] at g
      have hb := h2 i z (by omega) (by rw [List.getElem?_eq_getElem (by omega), g])
      rcases hb with k | ⟨k, m⟩
      · rcases hc with q | ⟨q, -⟩
        · exact Int64.lt_irrefl (Int64.lt_trans k q)
        · rw [q] at k; exact Int64.lt_irrefl k
      · rcases hc with q | ⟨-, q⟩
        · rw [k] at q; exact Int64.lt_irrefl q
        · omega
  unfold rkE insL
  rw [hr, show es.length - (es.length - j) = j by omega]
