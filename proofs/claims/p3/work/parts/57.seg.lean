/-! Chains. -/
section SEGS
variable {σ u : mjS}
def hdq (l : List Nat) (q : Int32) : Int32 := match l with
  | [] => q
  | e :: _ => nI e
theorem nx_hdq (l : List Nat) : nx l = hdq l (-1) := by cases l <;> rfl
theorem seg_cons {p q : Int32} {e : Nat} {r : List Nat} : SEG σ p (e :: r) q ↔ σ.2.2.1 r_ePrev e = p ∧ σ.2.2.1 r_eNext e = hdq r q ∧ SEG σ (nI e) r q := by
  cases r <;> exact Iff.rfl
theorem hdq_app (l1 l2 : List Nat) (q : Int32) : hdq (l1 ++ l2) q = hdq l1 (hdq l2 q) := by cases l1 <;> rfl
theorem seg_app {q : Int32} {l2 : List Nat} : ∀ {l1 : List Nat} {p : Int32}, SEG σ p (l1 ++ l2) q ↔ SEG σ p l1 (hdq l2 q) ∧ SEG σ (lst p l1) l2 q := by
  intro l1
  induction l1 with
  | nil => intro p; exact ⟨fun h => ⟨trivial, h⟩, fun h => h.2⟩
  | cons e r ih =>
    intro p
    rw [List.cons_append, seg_cons, seg_cons, ih, hdq_app]
    exact ⟨fun h => ⟨⟨h.1, h.2.1, h.2.2.1⟩, h.2.2.2⟩, fun h => ⟨h.1.1, h.1.2.1, h.1.2.2, h.2⟩⟩
theorem lst_app (l1 l2 : List Nat) : ∀ p, lst p (l1 ++ l2) = lst (lst p l1) l2 := by
  induction l1 with
  | nil => intro p; rfl
  | cons e r ih => intro p; exact ih (nI e)
theorem lst_snoc (l : List Nat) (p : Int32) (b : Nat) : lst p (l ++ [b]) = nI b := by rw [lst_app]; rfl
/-- the last one's next changes -/
theorem seg_next {q q' : Int32} : ∀ {l : List Nat} {p : Int32}, SEG σ p l q → l.Nodup → (∀ j ∈ l, u.2.2.1 r_ePrev j = σ.2.2.1 r_ePrev j) → (∀ j ∈ l, u.2.2.1 r_eNext j = if l.getLast? = some j then q' else σ.2.2.1 r_eNext j) → SEG u p l q' := by
  intro l
  induction l with
  | nil => intro p _ _ _ _; trivial
  | cons e r ih =>
    intro p h nd hP hN
    obtain ⟨h1, h2, h3⟩ := seg_cons.mp h
    have nd2 := List.nodup_cons.mp nd
    refine seg_cons.mpr ⟨by rw [hP e List.mem_cons_self]; exact h1, ?_, ?_⟩
    · rw [hN e List.mem_cons_self]
      cases r with
      | nil => exact if_pos rfl
      | cons f r =>
        rw [if_neg (fun z => nd2.1 (List.mem_of_getLast? (by rw [List.getLast?_cons_cons] at z; exact z)))]
        exact h2
    · refine ih h3 nd2.2 (fun j hj => hP j (List.mem_cons_of_mem _ hj)) (fun j hj => ?_)
      rw [hN j (List.mem_cons_of_mem _ hj)]
      cases r with
      | nil => cases hj
      | cons f r => rw [List.getLast?_cons_cons]
/-- the first one's previous changes -/
theorem seg_prev {p p' q : Int32} {l : List Nat} (h : SEG σ p l q) (nd : l.Nodup) (hN : ∀ j ∈ l, u.2.2.1 r_eNext j = σ.2.2.1 r_eNext j) (hP : ∀ j ∈ l, u.2.2.1 r_ePrev j = if l.head? = some j then p' else σ.2.2.1 r_ePrev j) : SEG u p' l q := by
  cases l with
  | nil => trivial
  | cons e r =>
    obtain ⟨h1, h2, h3⟩ := seg_cons.mp h
    have nd2 := List.nodup_cons.mp nd
    refine seg_cons.mpr ⟨by rw [hP e List.mem_cons_self]; exact if_pos rfl, by rw [hN e List.mem_cons_self]; exact h2, ?_⟩
    have same : ∀ j ∈ r, u.2.2.1 r_ePrev j = σ.2.2.1 r_ePrev j := by
      intro j hj
      rw [hP j (List.mem_cons_of_mem _ hj), if_neg]
      intro z
      exact nd2.1 ((Option.some.inj z) ▸ hj)
    have key : ∀ (l : List Nat) (p : Int32), SEG σ p l q → (∀ j ∈ l, u.2.2.1 r_ePrev j = σ.2.2.1 r_ePrev j) → (∀ j ∈ l, u.2.2.1 r_eNext j = σ.2.2.1 r_eNext j) → SEG u p l q := by
      intro l
      induction l with
      | nil => intro p _ _ _; trivial
      | cons f s ih =>
        intro p h a b
        obtain ⟨h1, h2, h3⟩ := seg_cons.mp h
        exact seg_cons.mpr ⟨by rw [a f List.mem_cons_self]; exact h1, by rw [b f List.mem_cons_self]; exact h2, ih _ h3 (fun j hj => a j (List.mem_cons_of_mem _ hj)) (fun j hj => b j (List.mem_cons_of_mem _ hj))⟩
    exact key r _ h3 same (fun j hj => hN j (List.mem_cons_of_mem _ hj))
/-- an element comes between -/
theorem seg_ins {l1 l2 : List Nat} {e : Nat} (h : SEG σ (-1) (l1 ++ l2) (-1)) (nd : (l1 ++ l2).Nodup) (he : e ∉ l1 ++ l2)
    (hN : ∀ j, u.2.2.1 r_eNext j = if j = e then hdq l2 (-1) else if l1.getLast? = some j then nI e else σ.2.2.1 r_eNext j)
    (hP : ∀ j, u.2.2.1 r_ePrev j = if j = e then lst (-1) l1 else if l2.head? = some j then nI e else σ.2.2.1 r_ePrev j) : SEG u (-1) (l1 ++ e :: l2) (-1) := by
  obtain ⟨h1, h2⟩ := seg_app.mp h
  have n := List.nodup_append.mp nd
  have ne1 : ∀ j ∈ l1, j ≠ e := fun j hj q => he (q ▸ List.mem_append_left _ hj)
  have ne2 : ∀ j ∈ l2, j ≠ e := fun j hj q => he (q ▸ List.mem_append_right _ hj)
  refine seg_app.mpr ⟨?_, seg_cons.mpr ⟨by rw [hP, if_pos rfl], by rw [hN, if_pos rfl], ?_⟩⟩
  · refine seg_next h1 n.1 (fun j hj => ?_) (fun j hj => ?_)
    · rw [hP, if_neg (ne1 j hj), if_neg (fun z => n.2.2 j hj j (List.mem_of_head? z) rfl)]
    · rw [hN, if_neg (ne1 j hj)]; rfl
  · refine seg_prev h2 n.2.1 (fun j hj => ?_) (fun j hj => ?_)
    · rw [hN, if_neg (ne2 j hj), if_neg (fun z => n.2.2 j (List.mem_of_getLast? z) j hj rfl)]
    · rw [hP, if_neg (ne2 j hj)]
end SEGS
