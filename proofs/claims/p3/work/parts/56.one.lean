/-! One key of the store changes. -/
section ONE
variable {σ u : mjS}
theorem eIds_app (a b : List KR) : eIds (a ++ b) = eIds a ++ eIds b := by unfold eIds; rw [List.flatMap_append]
theorem eIds_cons (x : KR) (b : List KR) : eIds (x :: b) = ids x.2.2.2.2.2.2 ++ eIds b := by unfold eIds; rw [List.flatMap_cons]
theorem kIds_app (a b : List KR) : kIds (a ++ b) = kIds a ++ kIds b := by unfold kIds; rw [List.map_append]
theorem kIds_cons (x : KR) (b : List KR) : kIds (x :: b) = x.1 :: kIds b := by unfold kIds; rw [List.map_cons]
theorem mem_eIds {ks : List KR} {y : KR} (hy : y ∈ ks) {e : Nat} (he : e ∈ ids y.2.2.2.2.2.2) : e ∈ eIds ks := by unfold eIds; exact List.mem_flatMap.mpr ⟨y, hy, he⟩
theorem mem_kIds {ks : List KR} {y : KR} (hy : y ∈ ks) : y.1 ∈ kIds ks := by unfold kIds; exact List.mem_map.mpr ⟨y, hy, rfl⟩
/-- one key's record becomes another one: what else there is stays as it was -/
theorem KS.one {hs hs' : Nat} {A B : List KR} {x x' : KR} {fk fe fe' : List Nat} (h : KS σ hs (A ++ x :: B) fk fe) (hx : x'.1 = x.1)
    (g1 : u.1 f_heapSize = nI hs') (g1a : hs ≤ hs') (g1b : hs' ≤ 300000) (g2 : u.1 f_keys = σ.1 f_keys) (g3 : u.1 f_kFrees = σ.1 f_kFrees) (g4 : u.1 f_eFree = nx fe')
    (r1 : u.2.2.1 r_order = σ.2.2.1 r_order) (r2 : u.2.2.1 r_kFree = σ.2.2.1 r_kFree) (aK : ∀ j, j ≠ x.1 → AgK σ u j) (aE : ∀ j, j ∉ ids x.2.2.2.2.2.2 → j ∉ fe → AgE σ u j) (aH : AgH σ u hs)
    (hk : KOK u hs' x') (hp : (ids x'.2.2.2.2.2.2 ++ fe').Perm (ids x.2.2.2.2.2.2 ++ fe)) (hf : FSEG u fe') (hg : ∀ e ∈ fe', GA u r_eAt e ∧ GA u r_vAt e) : KS u hs' (A ++ x' :: B) fk fe' := by
  obtain ⟨a1, a2, a3, a4, a5, a6, a7, a8, a9, a10, a11, a12, a13, a14, a15, a16, a17⟩ := h
  have ek : kIds (A ++ x' :: B) = kIds (A ++ x :: B) := by rw [kIds_app, kIds_app, kIds_cons, kIds_cons, hx]
  have ep : (eIds (A ++ x' :: B) ++ fe').Perm (eIds (A ++ x :: B) ++ fe) := by
    rw [eIds_app, eIds_app, eIds_cons, eIds_cons]
    have e1 : ∀ (p q r s : List Nat), (p ++ (q ++ r) ++ s).Perm (p ++ r ++ (q ++ s)) := by
      intro p q r s
      rw [List.append_assoc, List.append_assoc, List.append_assoc]
      refine List.Perm.append_left p ?_
      rw [← List.append_assoc, ← List.append_assoc]
      exact List.Perm.append_right s List.perm_append_comm
    exact (e1 _ _ _ _).trans ((List.Perm.append_left _ hp).trans (e1 _ _ _ _).symm)
  have oth : ∀ y, y ∈ A ∨ y ∈ B → y.1 ≠ x.1 ∧ ∀ e ∈ ids y.2.2.2.2.2.2, e ∉ ids x.2.2.2.2.2.2 ∧ e ∉ fe := by
    intro y hy
    rw [kIds_app, kIds_cons] at a8
    rw [eIds_app, eIds_cons] at a11
    have n1 := (List.nodup_append.mp a8).1
    constructor
    · intro e
      rcases hy with hy | hy
      · exact (List.nodup_append.mp n1).2.2 y.1 (mem_kIds hy) x.1 List.mem_cons_self e
      · exact (List.nodup_cons.mp (List.nodup_append.mp n1).2.1).1 (e ▸ mem_kIds hy)
    · intro e he
      have n2 := List.nodup_append.mp a11
      have n3 := List.nodup_append.mp n2.1
      have n4 := List.nodup_append.mp n3.2.1
      rcases hy with hy | hy
      · have m := mem_eIds hy he
        exact ⟨fun q => n3.2.2 e m e (List.mem_append_left _ q) rfl, fun q => n2.2.2 e (List.mem_append_left _ m) e q rfl⟩
      · have m := mem_eIds hy he
        exact ⟨fun q => n4.2.2 e q e m rfl, fun q => n2.2.2 e (List.mem_append_right _ (List.mem_append_right _ m)) e q rfl⟩
  refine ⟨g1, g1b, ?_, ?_, ?_, by rw [g3]; exact a6, by rw [r2]; exact a7, by rw [ek]; exact a8, by rw [ek]; exact a9, by rw [ek]; exact a10, ep.nodup_iff.mpr a11, fun e he => a12 e (ep.mem_iff.mp he), ep.length_eq.trans a13, g4, hf, hg, ?_⟩
  · rw [g2, a3, List.length_append, List.length_append]; rfl
  · intro i y hy
    rw [r1]
    by_cases c : i < A.length
    · rw [List.getElem?_append_left c] at hy
      exact a4 i y (by rw [List.getElem?_append_left c]; exact hy)
    · rw [List.getElem?_append_right (by omega)] at hy
      by_cases c2 : i - A.length = 0
      · rw [c2] at hy
        have e : x' = y := Option.some.inj hy
        rw [← e, hx]
        exact a4 i x (by rw [List.getElem?_append_right (by omega), c2]; rfl)
      · obtain ⟨m, hm⟩ := Nat.exists_eq_succ_of_ne_zero c2
        rw [hm] at hy
        exact a4 i y (by rw [List.getElem?_append_right (by omega), hm]; exact hy)
  · intro y hy
    rcases List.mem_append.mp hy with hy | hy
    · have o := oth y (Or.inl hy)
      exact (a5 y (List.mem_append_left _ hy)).fr (aK y.1 o.1) (fun e he => aE e (o.2 e he).1 (o.2 e he).2) aH g1a
    · rcases List.mem_cons.mp hy with rfl | hy
      · exact hk
      · have o := oth y (Or.inr hy)
        exact (a5 y (List.mem_append_right _ (List.mem_cons_of_mem _ hy))).fr (aK y.1 o.1) (fun e he => aE e (o.2 e he).1 (o.2 e he).2) aH g1a
  · intro k hk2
    have ne : k ≠ x.1 := by
      intro e
      exact (List.nodup_append.mp a8).2.2 x.1 (by rw [kIds_app, kIds_cons]; exact List.mem_append_right _ List.mem_cons_self) k hk2 e.symm
    have ag := aK k ne
    obtain ⟨⟨p, p1, p2⟩, q, q1, q2⟩ := a17 k hk2
    exact ⟨⟨p, p1, by rw [ag.1 r_kAt (by decide)]; exact p2⟩, q, q1, by rw [ag.1 r_tAt (by decide)]; exact q2⟩
end ONE
