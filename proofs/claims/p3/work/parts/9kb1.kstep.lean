/-! A step of the class's log. -/
section KSTEP
variable {B : List (List Int32)}
def tkU (j : Nat) : Bool := decide ((kCmd j).1 = nI (cLo.getD (rid j) 0)) && (decide (cHi.getD (rid j) 0 = 0 ∧ nI 1024 ≤ (kCmd j).2.1) || decide ((kCmd j).2.1 = nI (cHi.getD (rid j) 0 - 1) ∧ 1 ≤ cHi.getD (rid j) 0)) && (decide ((kCmd j).2.2.2.1 &&& 4 = 0) || decide (rid j = 9 ∨ rid j = 10)) && (decide ((kCmd j).2.2.2.1 &&& 8 = 0) || decide (rid j = 52 ∨ (rid j = 21 ∧ cLo.getD (rid j) 0 = 1 ∧ cHi.getD (rid j) 0 = 4)))
theorem tkU_all : ∀ j, j < 105 → tkU j = true := by decide +kernel
theorem af_tk {j n : Nat} (hj : j < 105) (hn : n < 1024) (h : afX (rid j) n = true) : tkP j (nI n) := by
  have ht := tkU_all j hj
  unfold tkU at ht
  rw [Bool.and_eq_true, Bool.and_eq_true, Bool.and_eq_true, Bool.or_eq_true, Bool.or_eq_true, Bool.or_eq_true] at ht
  obtain ⟨⟨⟨t1, t2⟩, t3⟩, t4⟩ := ht
  have t1 := of_decide_eq_true t1
  have hr := rid_rng j hj
  obtain ⟨a1, a2, a3⟩ := af_lo (by omega) (by omega) h
  have hl := cLo_le (rid j) (by omega)
  have hp := nI_par n hn
  refine ⟨?_, ?_, ?_, ?_⟩
  · rw [t1, nlt (by omega) (by omega)]; omega
  · rcases t2 with t2 | t2
    · have t2 := of_decide_eq_true t2
      intro z
      have := Int32.lt_of_le_of_lt t2.2 z
      rw [nlt (by decide) (by omega)] at this; omega
    · have t2 := of_decide_eq_true t2
      rw [t2.1, nlt (by omega) (by omega)]; omega
  · intro z
    rcases t3 with t3 | t3
    · exact of_decide_eq_true t3
    · have t3 := of_decide_eq_true t3
      unfold afC at a3
      rw [if_pos t3] at a3
      exact absurd (hp.mpr (of_decide_eq_true a3)) z
  · intro z
    rcases t4 with t4 | t4
    · exact of_decide_eq_true t4
    · have t4 := of_decide_eq_true t4
      have z := hp.mp z
      rcases t4 with t4 | ⟨t4, t5, t6⟩
      · unfold afC at a3
        rw [t4, if_neg (by decide), if_pos rfl] at a3
        have := of_decide_eq_true a3; omega
      · unfold afC at a3
        rw [t4, if_neg (by decide), if_neg (by decide)] at a3
        have : ¬ n = 2 := fun y => by rw [y] at a3; exact absurd a3 (by decide)
        omega
/-- the commands that are logged as they are -/
abbrev coL : List Nat := [9, 10, 11, 14, 15, 16, 17, 18, 19, 22, 25, 26, 29, 34, 37, 38, 39, 40, 41, 42, 46, 47, 48, 49, 50, 51, 52, 53, 56, 63, 64, 65, 70, 74, 75, 76, 77, 78, 79, 81, 90, 91, 92, 93]
theorem co_in {i : Nat} {ws : Req} {A A' : List AK} : coF i ws A = some A' → i ∈ coL := by
  unfold coF
  split <;> intro h <;> first | decide | cases h
abbrev lgL : List Nat := 2 :: 33 :: coL
def jof (i : Nat) : Nat := ridL.idxOf i
theorem lg_j : ∀ i ∈ lgL, jof i < 105 ∧ rid (jof i) = i ∧ (¬ (kCmd (jof i)).2.2.2.1 &&& 2 = 0) ∧ (¬ jof i = 8 ∧ ¬ jof i = 47) := by decide +kernel
theorem lg_n : ∀ i ∈ lgL, tb (txC (jof i)) = nm i ∧ (nm i).map up = nm i := by decide +kernel
theorem se_lg {go : Bool} {keep timed : Int32} {t now : Int64} {rp : Bool} {A A' : List AK} {w v : List Int32} {i : Nat} {as : List (List Int32)} (h : seF go keep timed t now rp A w v = some (A', i, as)) : i = 2 ∨ i = 22 := by
  unfold seF at h
  split at h
  · cases h
  · split at h
    · cases z : kyI A w with
      | none => rw [z] at h; cases h
      | some p => rw [z] at h; cases h; exact Or.inr rfl
    · cases h; exact Or.inl rfl
theorem ei_lg {t now : Int64} {rp : Bool} {A A' : List AK} {w : List Int32} {i : Nat} {as : List (List Int32)} (h : eiF t now rp A w = some (A', i, as)) : i = 22 ∨ i = 33 := by
  unfold eiF at h
  cases z : kyI A w with
  | none => rw [z] at h; cases h
  | some p =>
    rw [z] at h
    have h : (if t ≤ now ∧ rp = false then some (rmA A p, 22, [w]) else some (upA A p (exF t), 33, [w, dec t])) = some (A', i, as) := h
    split at h
    · cases h; exact Or.inl rfl
    · cases h; exact Or.inr rfl
theorem ti_lg {i : Nat} {ws : Req} {now : Int64} {rp : Bool} {A A' : List AK} {k : Nat} {as : List (List Int32)} (h : tiX i ws now rp A = some (A', k, as)) : k = 2 ∨ k = 22 ∨ k = 33 := by
  have S : ∀ {go : Bool} {keep timed : Int32} {t : Int64} {w v : List Int32}, seF go keep timed t now rp A w v = some (A', k, as) → k = 2 ∨ k = 22 ∨ k = 33 := fun h => (se_lg h).elim Or.inl (fun z => Or.inr (Or.inl z))
  have E : ∀ {t : Int64} {w : List Int32}, eiF t now rp A w = some (A', k, as) → k = 2 ∨ k = 22 ∨ k = 33 := fun h => Or.inr (ei_lg h)
  unfold tiX at h
  split at h
  · split at h
    · cases h
    · cases h; exact Or.inr (Or.inl rfl)
  · exact S h
  · exact S h
  · obtain ⟨t, -, h⟩ := bind_some h; exact S h
  · obtain ⟨t, -, h⟩ := bind_some h; exact S h
  · obtain ⟨t, -, h⟩ := bind_some h; exact E h
  · obtain ⟨t, -, h⟩ := bind_some h; exact E h
  · obtain ⟨t, -, h⟩ := bind_some h; exact E h
  · obtain ⟨t, -, h⟩ := bind_some h; exact E h
  · cases h
/-- what is noted is a logged command, as it was asked or as SET, DEL, PEXPIREAT -/
theorem rn_lg {i : Nat} {ws : Req} {now : Int64} {rp : Bool} {A A' : List AK} {k : Nat} {as : List (List Int32)} (h : rnF i ws now rp A = some (A', k, as)) : (k = 2 ∨ k = 22 ∨ k = 33) ∨ (k = i ∧ k ∈ coL ∧ as = ws.drop 1 ∧ coF i ws A = some A') := by
  unfold rnF at h
  split at h
  · obtain ⟨q, -, h⟩ := bind_some h
    have h : (if sfB 2 q.1.2.2.1 ws A = true then seF (goB q.1.1 q.1.2.1 A (gw ws 1)) q.1.2.2.2 (if q.2.isSome then 1 else 0) (q.2.getD 0) now rp A (gw ws 1) (gw ws 2) else none) = some (A', k, as) := h
    split at h
    · exact Or.inl ((se_lg h).elim Or.inl (fun z => Or.inr (Or.inl z)))
    · cases h
  · split at h
    · split at h
      · exact Or.inl (ti_lg h)
      · unfold nW at h
        cases z : coF i ws A with
        | none => rw [z] at h; cases h
        | some A1 => rw [z] at h; cases h; exact Or.inr ⟨rfl, co_in z, rfl, rfl⟩
    · cases h
theorem lg_in {k i : Nat} (h : (k = 2 ∨ k = 22 ∨ k = 33) ∨ (k = i ∧ k ∈ coL)) : k ∈ lgL := by
  rcases h with (rfl | rfl | rfl) | ⟨-, h⟩
  · decide
  · decide
  · decide
  · exact List.mem_cons_of_mem _ (List.mem_cons_of_mem _ h)
/-- a step of the class's log -/
def KSt (A : List AK) (q : Req) (A' : List AK) : Prop := ∃ j, QC q j ∧ ((¬ (kCmd j).2.2.2.1 &&& 2 = 0) ∧ ¬ j = 8 ∧ ¬ j = 47) ∧ (∀ w ∈ q, WOK w) ∧ IA A ∧ NUM A ∧ PQ A (rid j) q ∧ (rid j = 19 → ¬ sbC (gw q 2) (gw q 3) = none) ∧ ∀ now : Int64, ∃ e, rnF (rid j) q now true A = some (A', e)
theorem LSt_K {A A' : List AK} {i : Nat} {as : List (List Int32)} (h : LSt A (nm i :: as) A') (hi : i ∈ lgL) (hA : IA A) (hN : NUM A) (hP : PQ A i (nm i :: as)) (hs : i = 19 → ¬ sbC (gw (nm i :: as) 2) (gw (nm i :: as) 3) = none) : KSt A (nm i :: as) A' := by
  obtain ⟨c, h1, -, -, -, h5, -, h7, h8, h9, -⟩ := h
  obtain ⟨g1, g2, g3, g4⟩ := lg_j i hi
  obtain ⟨n1, n2⟩ := lg_n i hi
  have hm : (nm i).map up = tb (txC (jof i)) := n2.trans n1.symm
  have ec : c = i := by
    rw [← h1]; show cmC (nm i) = i
    rw [nmC_cm g1 hm, g2]
  rw [ec] at h5 h9
  refine ⟨jof i, ⟨g1, ⟨nm i, rfl, hm⟩, h7, fun w hw => (h8 w hw).1, ?_⟩, ⟨g3, g4⟩, h8, hA, hN, by rw [g2]; exact hP, by rw [g2]; exact hs, fun now => by rw [g2]; exact h9 now⟩
  refine af_tk g1 ?_ (by rw [g2]; exact h5)
  simp only [List.length_cons] at h7 ⊢; omega
theorem KSt.lq {A A' : List AK} {q : Req} (h : KSt A q A') : LQ q := by
  obtain ⟨j, h1, ⟨h2, h3, h4⟩, -⟩ := h
  exact ⟨j, h1, h2, h3, h4⟩
/-- a step of the log is run again -/
theorem KSt.rc {A A' : List AK} {q : Req} (h : KSt A q A') (hB : BOK B q) (hw : ∀ n m, intF (gw q 3) = some n → vhA A (gw q 1) (gw q 2) = some m → dec (m + n) ∈ B) (now : Int64) {r : List Req} {C : List AK} (hr : RCh B now A' r C) : RCh B now A (q :: r) C := by
  obtain ⟨j, h1, -, h3, h4, ⟨n1, n2, n3, n4⟩, h6, h7, h8⟩ := h
  refine ⟨j, h1, ⟨hB, h1.2.2.2.2, h4, h3, n1, n2, n3, n4, fun _ => hw, h6⟩, ?_⟩
  obtain ⟨e, h9⟩ := h8 now
  have : rnR now A j q = some (A', e) := by
    unfold rnR
    rw [if_neg (fun z => h7 z.1 z.2)]; exact h9
  rw [this]; exact hr
end KSTEP
