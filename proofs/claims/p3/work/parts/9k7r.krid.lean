/-! The class's commands and the reference's. -/
def ridL : List Nat := [11, 21, 28, 16, 18, 22, 101, 95, 100, 23, 30, 32, 29, 1, 20, 3, 13, 4, 56, 57, 54, 62, 63, 60, 58, 55, 52, 53, 59, 61, 15, 17, 27, 45, 47, 43, 50, 41, 37, 39, 44, 48, 46, 49, 8, 9, 10, 99, 34, 31, 33, 94, 7, 36, 104, 96, 25, 26, 42, 51, 38, 40, 64, 68, 73, 76, 2, 19, 6, 5, 14, 71, 74, 66, 69, 67, 70, 77, 65, 12, 102, 72, 75, 105, 35, 24, 103, 98, 97, 78, 82, 89, 81, 93, 92, 85, 87, 83, 79, 90, 91, 86, 88, 84, 80]
/-- the reference's number of a command of the class -/
def rid (j : Nat) : Nat := ridL.getD j 0
theorem rid_cm : ∀ j, j < 105 → cmC (tb (txC j)) = rid j := by decide +kernel
theorem rid_rng : ∀ j, j < 105 → 1 ≤ rid j ∧ rid j ≤ 105 := by decide +kernel
theorem up_up (b : Int32) : up (up b) = up b := by
  by_cases c : 97 ≤ b ∧ b ≤ 122
  · have e : up b = b - 32 := if_pos c
    have h1 : (97 : Int) ≤ b.toInt := Int32.le_iff_toInt_le.mp c.1
    have h2 : b.toInt ≤ 122 := Int32.le_iff_toInt_le.mp c.2
    have h3 : (b - 32).toInt = b.toInt - 32 := by
      rw [Int32.toInt_sub, show (32 : Int32).toInt = 32 by decide]; exact Int.bmod_eq_of_le (by omega) (by omega)
    rw [e]
    refine if_neg (fun z => ?_)
    have h4 : (97 : Int) ≤ (b - 32).toInt := Int32.le_iff_toInt_le.mp z.1
    omega
  · have e : up b = b := if_neg c
    rw [e, e]
theorem pkL_up : ∀ (w : List Int32) (k : Nat) (p : Int64 × Int64), pkL (w.map up) k p = pkL w k p := by
  intro w
  induction w with
  | nil => intro k p; rfl
  | cons b r ih =>
    intro k p
    show (if up (up b) < 65 ∨ 90 < up (up b) then none else pkL (r.map up) (k + 1) (if k < 8 then (shB p.1 (up (up b)), p.2) else (p.1, shB p.2 (up (up b))))) = _
    rw [up_up, ih]; rfl
theorem cm_up (w : List Int32) : cmC (w.map up) = cmC w := by
  unfold cmC cmF
  rw [List.length_map, pkL_up]
theorem nmC_cm {w : List Int32} {j : Nat} (hj : j < 105) (h : w.map up = tb (txC j)) : cmC w = rid j := by
  rw [← cm_up, h, rid_cm j hj]
def tkT (j : Nat) : Bool := decide ((kCmd j).1 = nI (cLo.getD (rid j) 0) ∧ cLo.getD (rid j) 0 ≤ 1024) && (decide (cHi.getD (rid j) 0 = 0) || decide ((kCmd j).2.1 = nI (cHi.getD (rid j) 0 - 1) ∧ 1 ≤ cHi.getD (rid j) 0 ∧ cHi.getD (rid j) 0 ≤ 1024)) && (!decide (rid j = 9 ∨ rid j = 10) || decide (¬ (kCmd j).2.2.2.1 &&& 4 = 0)) && (!decide (rid j = 52 ∨ rid j = 21) || decide (¬ (kCmd j).2.2.2.1 &&& 8 = 0))
theorem tkT_all : ∀ j, j < 105 → tkT j = true := by decide +kernel
theorem nI_par : ∀ n, n < 1024 → (nI n &&& 1 = 0 ↔ n % 2 = 0) := by decide +kernel
theorem tk_af {j n : Nat} (hj : j < 105) (hn : n < 1024) (h : tkP j (nI n)) : afX (rid j) n = true := by
  have ht := tkT_all j hj
  unfold tkT at ht
  rw [Bool.and_eq_true, Bool.and_eq_true, Bool.and_eq_true] at ht
  obtain ⟨⟨⟨t1, t2⟩, t3⟩, t4⟩ := ht
  have t1 := of_decide_eq_true t1
  obtain ⟨h1, h2, h3, h4⟩ := h
  have hp := nI_par n hn
  rw [t1.1, nlt (by omega) (by omega)] at h1
  have hhi : ¬ ((0 : Int32) ≤ hiI (cHi.getD (rid j) 0) ∧ hiI (cHi.getD (rid j) 0) < nI n) := by
    rw [Bool.or_eq_true] at t2
    rcases t2 with t2 | t2
    · have t2 := of_decide_eq_true t2
      rw [t2]; exact fun z => absurd z.1 (by decide)
    · have t2 := of_decide_eq_true t2
      rw [t2.1, nlt (by omega) (by omega)] at h2
      unfold hiI
      rw [if_neg (by omega), nlt (by omega) (by omega)]
      exact fun z => h2 z.2
  have hC : afC (rid j) n = true := by
    unfold afC
    by_cases c1 : rid j = 9 ∨ rid j = 10
    · rw [if_pos c1]
      rw [decide_eq_true c1] at t3
      have t3 : (false || decide (¬ (kCmd j).2.2.2.1 &&& 4 = 0)) = true := t3
      rw [Bool.false_or] at t3
      have t3 := of_decide_eq_true t3
      refine decide_eq_true (hp.mp ?_)
      by_cases c : nI n &&& 1 = 0
      · exact c
      · exact absurd (h3 c) t3
    · rw [if_neg c1]
      have par8 : (rid j = 52 ∨ rid j = 21) → n % 2 = 1 := by
        intro c2
        rw [decide_eq_true c2] at t4
        have t4 : (false || decide (¬ (kCmd j).2.2.2.1 &&& 8 = 0)) = true := t4
        rw [Bool.false_or] at t4
        have t4 := of_decide_eq_true t4
        have : ¬ n % 2 = 0 := fun z => t4 (h4 (hp.mpr z))
        omega
      by_cases c2 : rid j = 52
      · rw [if_pos c2]; exact decide_eq_true (par8 (Or.inl c2))
      · rw [if_neg c2]
        have : ¬ (rid j = 21 ∧ n = 2) := fun z => by
          have := par8 (Or.inr z.1)
          rw [z.2] at this; exact absurd this (by decide)
        rw [decide_eq_false this]; rfl
  unfold afX afB
  rw [if_neg (fun z => z.elim (fun y => h1 ((nlt (by omega) (by omega)).mp y)) hhi)]
  exact hC
/-- the flags of a command -/
theorem rid_hv : ∀ j, j < 105 → ((¬ (kCmd j).2.2.2.1 &&& 1 = 0) ↔ cHv.getD (rid j) false = true) := by decide +kernel
