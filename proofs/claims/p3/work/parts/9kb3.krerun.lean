/-! The class's log can be run again, whole; a part of it too. -/
section KRERUN
theorem rnR_no {i : Nat} {j : Nat} {ws : Req} (hi : rid j = i) (h2 : ¬ i = 2 ∧ ¬ i ∈ tiI) (hco : ∀ A, coF i ws A = none) (now : Int64) (A : List AK) : rnR now A j ws = none := by
  unfold rnR
  rw [hi]
  split
  · rfl
  · unfold rnF
    rw [if_neg h2.1, if_neg h2.2, hco]
    split <;> rfl
theorem mu_ok : (QC [nm 99] 47 ∧ (∀ w ∈ [nm 99], WOK w)) ∧ QC [nm 100] 8 ∧ ∀ w ∈ [nm 100], WOK w := by
  have a : (nm 99).map up = tb (txC 47) ∧ (nm 100).map up = tb (txC 8) ∧ (nm 99).length ≤ 16384 ∧ (nm 100).length ≤ 16384 ∧ (∀ x ∈ nm 99, x.toInt8.toInt32 = x) ∧ (∀ x ∈ nm 100, x.toInt8.toInt32 = x) := by decide +kernel
  have t : tkP 47 (nI 0) := by unfold tkP; decide +kernel
  have t8 : tkP 8 (nI 0) := by unfold tkP; decide +kernel
  obtain ⟨a1, a2, a3, a4, a5, a6⟩ := a
  refine ⟨⟨⟨by decide, ⟨nm 99, rfl, a1⟩, by decide, ?_, t⟩, ?_⟩, ⟨by decide, ⟨nm 100, rfl, a2⟩, by decide, ?_, t8⟩, ?_⟩ <;> intro w hw <;> rw [List.mem_singleton.mp hw]
  · exact a3
  · exact ⟨a3, a5⟩
  · exact a4
  · exact ⟨a4, a6⟩
theorem RC_w {B : List (List Int32)} {A : List AK} {P : Nat} (h : LJ A P) {q : Req} {j i : Nat} (hq : QC q j) (hW : ∀ w ∈ q, WOK w) (hB : BOK B q) (hi : rid j = i) (h2 : ¬ i = 2 ∧ ¬ i ∈ tiI) (hco : ∀ A, coF i q A = none) (h63 : ¬ i = 63) (hl : ¬ (i = 78 ∨ i = 9 ∨ i = 10 ∨ (74 ≤ i ∧ i ≤ 76))) {now : Int64} {r : List Req} {C : List AK} (hr : RCh B now A r C) : RCh B now A (q :: r) C := by
  obtain ⟨n1, n2, n3, n4⟩ := h.num
  refine ⟨j, hq, ⟨hB, hq.2.2.2.2, h.1.1, hW, n1, n2, n3, n4, fun z => absurd (hi.symm.trans z) h63, by rw [hi]; exact PQ_light hl⟩, ?_⟩
  rw [rnR_no hi h2 hco]; exact hr
/-- a block is run again -/
theorem RC_blk {B : List (List Int32)} {P : Nat} {bl : Bool} {ns : List Req} {A A' : List AK} (hA : LJ A P) (hA' : LJ A' P) (hB : BS B) (h99 : nm 99 ∈ B) (h100 : nm 100 ∈ B) {now : Int64} (h : ∀ r C, RCh B now A' r C → RCh B now A (ns ++ r) C) : RCh B now A (bqs bl ns) A' := by
  obtain ⟨⟨m1, m2⟩, m3, m4⟩ := mu_ok
  unfold bqs
  cases bl with
  | false =>
    rw [if_neg (by decide)]
    have := h [] A' rfl
    rw [List.append_nil] at this; exact this
  | true =>
    rw [if_pos rfl]
    show RCh B now A ([nm 99] :: (ns ++ [[nm 100]])) A'
    refine RC_w (i := 99) hA m1 m2 (hB.ok (fun w hw => by rw [List.mem_singleton.mp hw]; exact h99)) rfl (by decide) (fun _ => rfl) (by decide) (by decide) ?_
    refine h [[nm 100]] A' ?_
    exact RC_w (i := 100) hA' m3 m4 (hB.ok (fun w hw => by rw [List.mem_singleton.mp hw]; exact h100)) rfl (by decide) (fun _ => rfl) (by decide) (by decide) rfl
theorem blk_ge {bl : Bool} {ns : List Req} (h : ns ≠ []) : (encs ns).length ≤ (blkB bl ns).length := by
  rw [bqs_b h]
  unfold bqs
  cases bl with
  | false => rw [if_neg (by decide)]; exact Nat.le_refl _
  | true =>
    rw [if_pos rfl, List.cons_append, List.flatMap_cons, List.flatMap_append, List.length_append, List.length_append]
    show (List.flatMap encR ns).length ≤ _
    omega
theorem KLg_RB {P : Nat} : ∀ {E : List Blk} {A A' : List AK} {n : Nat}, KLg P n A E A' → LJ A P → n + (enE E).length ≤ 210000 → ∃ W : List (List Int32), sl W ≤ (enE E).length ∧ 6 * W.length ≤ (enE E).length ∧ ∀ B, BS B → nm 99 ∈ B → nm 100 ∈ B → (∀ w ∈ W, w ∈ B) → ∀ now, RBs B now A E A' := by
  intro E
  induction E with
  | nil => intro A A' n h _ _; exact ⟨[], Nat.zero_le _, Nat.zero_le _, fun B _ _ _ _ now => h⟩
  | cons x r ih =>
    intro A A' n h hA hn
    obtain ⟨h1, h2, D, h3, h5, h4⟩ := h
    have hD := KCh_LJ h3 hA
    have e : (enE (x :: r)).length = (blkB x.1 x.2).length + (enE r).length := by
      show (blkB x.1 x.2 ++ enE r).length = _; rw [List.length_append]
    obtain ⟨W1, w1, w2, w3⟩ := KCh_RC h3
    obtain ⟨W2, v1, v2, v3⟩ := ih h4 hD (by omega)
    have g := blk_ge (bl := x.1) h1
    have hlen : x.2.length < 900000 := by
      have := fl_len x.2
      have g' : (List.flatMap encR x.2).length ≤ (blkB x.1 x.2).length := g
      omega
    refine ⟨W1 ++ W2, by rw [sl_app', e]; omega, by rw [List.length_append, e]; omega, fun B hB h99 h100 hW now => ?_⟩
    refine ⟨⟨h1, h2, hlen, KCh_lq h3⟩, D, ?_, v3 B hB h99 h100 (fun w hw => hW w (List.mem_append_right _ hw)) now⟩
    exact RC_blk hA hD hB h99 h100 (fun r C hr => w3 B hB (fun w hw => hW w (List.mem_append_left _ hw)) now r C hr)
/-- the words of a log -/
theorem KLg_B {P : Nat} {E : List Blk} {A' : List AK} (h : KLg P 0 [] E A') (hp : P ≤ 10240) (hn : (enE E).length ≤ 210000) : ∃ B, BS B ∧ ∀ now, RBs B now [] E A' := by
  obtain ⟨W, w1, w2, w3⟩ := KLg_RB h (LJ_nil P hp) (by omega)
  have l : (nm 99).length ≤ 16 ∧ (nm 100).length ≤ 16 := by decide +kernel
  refine ⟨[] :: nm 99 :: nm 100 :: W, ⟨?_, ?_, List.mem_cons_self ..⟩, fun now => ?_⟩
  · show 0 + ((nm 99).length + ((nm 100).length + sl W)) ≤ 235000; omega
  · simp only [List.length_cons]; omega
  · refine w3 _ ⟨?_, ?_, List.mem_cons_self ..⟩ (List.mem_cons_of_mem _ (List.mem_cons_self ..)) (List.mem_cons_of_mem _ (List.mem_cons_of_mem _ (List.mem_cons_self ..))) (fun w hw => List.mem_cons_of_mem _ (List.mem_cons_of_mem _ (List.mem_cons_of_mem _ hw))) now
    · show 0 + ((nm 99).length + ((nm 100).length + sl W)) ≤ 235000; omega
    · simp only [List.length_cons]; omega
/-- a part of the log is some of its blocks and a part of the next -/
theorem KLg_cut {P : Nat} : ∀ (E : List Blk) (A C : List AK) (n m : Nat), KLg P n A E C → m ≤ (enE E).length → ∃ E1 A1 T, (enE E).take m = enE E1 ++ T ∧ KLg P n A E1 A1 ∧ TORN T ∧ ((19 * tS A + 2 * uS A + 8 * P) + n ≤ 207584 → n + (enE E1).length + (19 * tS A1 + 2 * uS A1 + 8 * P) ≤ 207584) := by
  intro E
  induction E with
  | nil =>
    intro A C n m h hm
    refine ⟨[], A, [], by show List.take m [] = [] ++ []; simp, rfl, Or.inl rfl, fun z => ?_⟩
    show n + 0 + _ ≤ _; omega
  | cons x r ih =>
    intro A C n m h hm
    obtain ⟨h1, h2, D, h3, h5, h4⟩ := h
    have hl : (enE (x :: r)).length = (blkB x.1 x.2).length + (enE r).length := by
      show (blkB x.1 x.2 ++ enE r).length = _; rw [List.length_append]
    have hlen : x.2.length < 900000 := by
      have := fl_len x.2
      have g' : (List.flatMap encR x.2).length ≤ (blkB x.1 x.2).length := blk_ge h1
      omega
    by_cases c : m < (blkB x.1 x.2).length
    · refine ⟨[], A, (blkB x.1 x.2).take m, ?_, rfl, ?_, fun z => ?_⟩
      · show List.take m (blkB x.1 x.2 ++ enE r) = [] ++ _
        rw [List.take_append_of_le_length (by omega)]; rfl
      · refine Or.inr ⟨x.1, x.2, ⟨h1, h2, hlen, KCh_lq h3⟩, by rw [List.length_take]; omega, (blkB x.1 x.2).drop m, (List.take_append_drop m _).symm⟩
      · show n + 0 + _ ≤ _; omega
    · obtain ⟨E1, A1, T, e1, g1, g2, g3⟩ := ih D C (n + (blkB x.1 x.2).length) (m - (blkB x.1 x.2).length) h4 (by omega)
      refine ⟨x :: E1, A1, T, ?_, ⟨h1, h2, D, h3, h5, g1⟩, g2, fun _ => ?_⟩
      · show List.take m (blkB x.1 x.2 ++ enE r) = blkB x.1 x.2 ++ enE E1 ++ T
        rw [List.take_append, List.take_of_length_le (by omega), e1, List.append_assoc]
      · have := g3 (by omega)
        show n + (blkB x.1 x.2 ++ enE E1).length + _ ≤ _
        rw [List.length_append]; omega
end KRERUN
