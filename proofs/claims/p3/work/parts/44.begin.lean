/-! A request as the log has it. -/
section BEGIN
variable {Y : Nat → MethodName × ByteArray} {d : Nat} {σ : mjS}
abbrev nH3 : List Nat := r_spelt :: nH
/-- a request's head: how many words, and the first one -/
def headL (σ : mjS) (n : Int64) (i : Nat) : List Int32 := 42 :: dec n ++ [13, 10] ++ wordL (nmOf σ i)
theorem headL_fr {fs hs : List Nat} {u : mjS} (f : Fr fs hs σ u) (h1 : r_nameA ∉ hs) (h2 : r_nameB ∉ hs) (n : Int64) (i : Nat) : headL u n i = headL σ n i := by
  unfold headL nmOf; rw [(f.2.2 _ h1).2, (f.2.2 _ h2).2]
theorem headL_len (n : Int64) (i : Nat) : (headL σ n i).length ≤ 66 := by
  unfold headL
  have h1 := dec_len n; have h2 := nmOf_len (σ := σ) i; have h3 := wordL_len (nmOf σ i)
  simp only [List.length_append, List.length_cons, List.length_nil]; omega
/-- what a request's head puts, in a block the first one with MULTI ahead of it -/
def begL (σ : mjS) (l : List Int32) (n : Int64) (i : Nat) : List Int32 := (if ¬ σ.1 f_inBlock = 0 ∧ l = [] then headL σ 1 99 else []) ++ headL σ n i
theorem begL_len (l : List Int32) (n : Int64) (i : Nat) : (begL σ l n i).length ≤ 132 := by
  unfold begL; rw [List.length_append]
  have h1 := headL_len (σ := σ) n i; have h2 := headL_len (σ := σ) 1 99
  by_cases c : ¬ σ.1 f_inBlock = 0 ∧ l = []
  · rw [if_pos c]; omega
  · rw [if_neg c]; show 0 + _ ≤ _; omega
set_option maxRecDepth 100000 in
theorem c_head_end (K : mjK) (x1 x2 : Int32) {l : List Int32} (n i : Nat) (hn : n < 2 ^ 31) (hi : i < 128) (e1 : x1 = nI n) (e2 : x2 = nI i) (ty : mjTY σ) (hp : pnd σ l) (hl : l.length + 66 ≤ 420000) (hK : ∀ u, mjTY u → Fr nF nH3 σ u → pnd u (l ++ headL σ (lN n) i) → K (some (.int 1)) u) :
    mjY mjPP (mjQQ Y) (d + 4) 47 18 [some (.ref 0), some (.int x1), some (.int x2)] [] σ K := by
  subst e1; subst e2
  refine mjZ_y rfl rfl 10 _ _ _ _ ty ?_
  refine And.intro (Nat.le_of_ble_eq_true rfl) (And.intro rfl (And.intro (Nat.le_of_ble_eq_true rfl) (And.intro (Nat.le_of_ble_eq_true rfl) (mjY_mono ty (fun r u1 ty1 h1 => ?_) (c_noteNumber (d := d + 2) ty hp (by omega) (Int8.ofInt 42).toInt32 (by decide) (nI n).toInt64)))))
  obtain ⟨rfl, f1, p1⟩ := h1
  rw [nI_l hn, show (Int8.ofInt 42).toInt32 = 42 by decide] at p1
  intro _
  have hd := dec_len (lN n)
  have hll : (l ++ (42 :: dec (lN n) ++ [13, 10])).length ≤ l.length + 24 := by
    simp only [List.length_append, List.length_cons, List.length_nil]; omega
  refine And.intro (Nat.le_of_ble_eq_true rfl) (And.intro rfl (And.intro (Nat.le_of_ble_eq_true rfl) (And.intro (Nat.le_of_ble_eq_true rfl) (mjY_mono ty1 (fun r u2 ty2 h2 => ?_) (c_noteName (d := d) ty1 p1 i hi (by omega))))))
  obtain ⟨rfl, f2, p2⟩ := h2
  intro _
  refine And.intro rfl (And.intro (Or.inr ⟨rfl, Or.inr rfl⟩) (hK u2 ty2 ((f1.up (by decide) (by decide)).tr f2) ?_))
  have en : nmOf u1 i = nmOf σ i := by unfold nmOf; rw [(f1.2.2 r_nameA (by decide)).2, (f1.2.2 r_nameB (by decide)).2]
  rw [en] at p2
  unfold headL
  simpa [List.append_assoc] using p2
set_option maxRecDepth 100000 in
theorem c_noteBegins (ty : mjTY σ) {l : List Int32} (hp : pnd σ l) (n i : Nat) (hn : n < 2 ^ 31) (hi : i < 128) (hl : l.length + 132 ≤ 420000) : mjY mjPP (mjQQ Y) (d + 4) 47 0 (mjL0 3 [.ref 0, .int (nI n), .int (nI i)]) [] σ (fun r u => (¬ σ.1 f_replays = 0 ∧ r = some (.int 0) ∧ u = σ) ∨ (σ.1 f_replays = 0 ∧ r = some (.int 1) ∧ Fr nF nH3 σ u ∧ pnd u (l ++ begL σ l (lN n) i))) := by
  refine mjZ_y rfl rfl 3 _ _ _ _ ty ?_
  refine And.intro rfl (And.intro (fun c => ?_) (fun c => ?_))
  · have c : σ.1 f_replays = 0 := c
    refine mjZ_re rfl rfl 3 ty ?_
    refine And.intro rfl (And.intro (fun cb => ?_) (fun cb => ?_))
    · have cb : σ.1 f_inBlock = 0 := cb
      refine mjZ_re rfl rfl 0 ty ?_
      refine c_head_end _ _ _ n i hn hi rfl rfl ty hp (by omega) (fun u tu fu pu => Or.inr ⟨c, rfl, fu, ?_⟩)
      unfold begL; rw [if_neg (fun q => q.1 cb)]; exact pu
    · have cb : ¬ σ.1 f_inBlock = 0 := cb
      refine mjZ_re rfl rfl 3 ty ?_
      refine And.intro rfl (And.intro (fun cp => ?_) (fun cp => ?_))
      · have cp : ¬ σ.1 f_pendingSize = 0 := cp
        have hne : ¬ l = [] := fun q => cp (by rw [hp.1, q]; rfl)
        refine mjZ_re rfl rfl 0 ty ?_
        refine c_head_end _ _ _ n i hn hi rfl rfl ty hp (by omega) (fun u tu fu pu => Or.inr ⟨c, rfl, fu, ?_⟩)
        unfold begL; rw [if_neg (fun q => hne q.2)]; exact pu
      · have cp : σ.1 f_pendingSize = 0 := Decidable.of_not_not cp
        have hnil : l = [] := by
          have e := hp.1; rw [cp] at e
          have e2 := (nI_eq (a := 0) (b := l.length) (by omega) (by have := hp.2.1; omega)).mp e
          exact List.length_eq_zero_iff.mp e2.symm
        subst hnil
        refine mjZ_re rfl rfl 7 ty ?_
        refine And.intro (Nat.le_of_ble_eq_true rfl) (And.intro rfl (And.intro (Nat.le_of_ble_eq_true rfl) (And.intro (Nat.le_of_ble_eq_true rfl) (mjY_mono ty (fun r u1 ty1 h1 => ?_) (c_noteNumber (d := d + 2) ty hp (by decide) (Int8.ofInt 42).toInt32 (by decide) _)))))
        obtain ⟨rfl, f1, p1⟩ := h1
        rw [show (Int8.ofInt 42).toInt32 = 42 by decide] at p1
        intro _
        have hll : ([] ++ (42 :: dec 1 ++ [13, 10]) : List Int32).length ≤ 24 := by decide +kernel
        refine And.intro (Nat.le_of_ble_eq_true rfl) (And.intro rfl (And.intro (Nat.le_of_ble_eq_true rfl) (And.intro (Nat.le_of_ble_eq_true rfl) (mjY_mono ty1 (fun r u2 ty2 h2 => ?_) (c_noteName (d := d) ty1 p1 99 (by decide) (Nat.le_trans (Nat.add_le_add_right hll 42) (by decide)))))))
        obtain ⟨rfl, f2, p2⟩ := h2
        intro _
        have en : nmOf u1 99 = nmOf σ 99 := by unfold nmOf; rw [(f1.2.2 r_nameA (by decide)).2, (f1.2.2 r_nameB (by decide)).2]
        have p2 : pnd u2 (headL σ 1 99) := by
          rw [en] at p2; unfold headL; simpa [List.append_assoc] using p2
        have h66 := headL_len (σ := σ) 1 99
        have f12 := (f1.up (fs' := nF) (hs' := nH3) (by decide) (by decide)).tr f2
        refine c_head_end _ _ _ n i hn hi rfl rfl ty2 p2 (by omega) (fun u tu fu pu => Or.inr ⟨c, rfl, f12.tr fu, ?_⟩)
        rw [headL_fr f12 (by decide) (by decide)] at pu
        unfold begL; rw [if_pos ⟨cb, rfl⟩, List.nil_append]; exact pu
  · have c : ¬ σ.1 f_replays = 0 := c
    refine mjZ_re rfl rfl 2 ty ?_
    exact And.intro rfl (And.intro (Or.inr ⟨rfl, Or.inl rfl⟩) (Or.inl ⟨c, rfl, rfl⟩))
end BEGIN
