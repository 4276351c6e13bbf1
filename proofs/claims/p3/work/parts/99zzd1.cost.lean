/-! What a request of the log costs, paid by the fed bytes. -/
section COST
def kap (A : List AK) : Nat := 92 * A.length + nB A
theorem rw1_b (w : List Int32) : w.length + 1 ≤ rw1 w ∧ 2 ≤ rw1 w := by
  unfold rw1
  by_cases c : w.length = 0
  · rw [if_pos c]; omega
  · rw [if_neg c]; omega
theorem rw_at : ∀ (r : Req) (k : Nat), k < r.length → rw1 (gw r k) ≤ rw r := by
  intro r
  induction r with
  | nil => intro k h; exact absurd h (Nat.not_lt_zero _)
  | cons w r ih =>
    intro k h
    cases k with
    | zero => exact Nat.le_add_right _ _
    | succ n => exact Nat.le_trans (ih n (Nat.lt_of_succ_lt_succ h)) (Nat.le_add_left _ _)
theorem rw_2 {ws : Req} (h : 1 < ws.length) : rw1 (gw ws 0) + rw1 (gw ws 1) ≤ rw ws := by
  cases ws with
  | nil => exact absurd h (Nat.not_lt_zero _)
  | cons a r => exact Nat.add_le_add_left (rw_at r 0 (Nat.lt_of_succ_lt_succ h)) _
theorem rw_3 {ws : Req} {n : Nat} (h1 : 2 ≤ n) (h : n < ws.length) : rw1 (gw ws 0) + rw1 (gw ws 1) + rw1 (gw ws n) ≤ rw ws := by
  obtain ⟨m, rfl⟩ : ∃ m, n = m + 2 := ⟨n - 2, by omega⟩
  cases ws with
  | nil => exact absurd h (Nat.not_lt_zero _)
  | cons a r =>
    cases r with
    | nil => exact absurd h (by show ¬ m + 2 < 1; omega)
    | cons b r =>
      have := rw_at r m (by have h : m + 2 < r.length + 1 + 1 := h; omega)
      show rw1 a + rw1 b + rw1 (gw r m) ≤ rw1 a + (rw1 b + rw r)
      omega
theorem ns_sz (keep timed : Int32) (t : Int64) : sz (nsW keep timed t) ≤ 77 := by
  unfold nsW
  by_cases z : keep = 0
  · rw [if_pos z]
    by_cases y : timed = 0
    · rw [if_pos y]; exact Nat.zero_le _
    · rw [if_neg y, sz_cons, sz_cons]
      have dl := dec_len t
      show 4 + 26 + ((dec t).length + 26 + 0) ≤ 77; omega
  · rw [if_neg z]; decide
/-- what a live command logs -/
theorem live_cost {i : Nat} {ws : Req} {now : Int64} {A A' : List AK} {j : Nat} {as : List (List Int32)} (hw : 1 ≤ ws.length) (hi : i ≤ 105) (h1024 : ws.length ≤ 1024) (af : afX i (ws.length - 1) = true) (h0 : 3 ≤ (gw ws 0).length) (h : rnF i ws now false A = some (A', j, as)) : 66 + sz as ≤ 26 * rw ws := by
  obtain ⟨q1, q2, q3⟩ := af_lo (by omega) (by omega) af
  have b0 := rw1_b (gw ws 0)
  have b1 := rw1_b (gw ws 1)
  have del : 1 < ws.length → as = [gw ws 1] → 66 + sz as ≤ 26 * rw ws := by
    intro hl e
    have := rw_2 hl
    rw [e, sz_cons]; show 66 + ((gw ws 1).length + 26 + 0) ≤ _; omega
  have se : ∀ {go : Bool} {keep timed : Int32} {t : Int64} (n : Nat), 2 ≤ n → n < ws.length → seF go keep timed t now false A (gw ws 1) (gw ws n) = some (A', j, as) → 66 + sz as ≤ 26 * rw ws := by
    intro go keep timed t n n2 nl h
    have bn := rw1_b (gw ws n)
    have r3 := rw_3 n2 nl
    have nz := ns_sz keep timed t
    unfold seF at h
    by_cases c : go = false
    · rw [if_pos c] at h; cases h
    · rw [if_neg c] at h
      by_cases d : (¬ timed = 0) ∧ t ≤ now ∧ false = false
      · rw [if_pos d] at h
        cases e : kyI A (gw ws 1) with
        | none => rw [e] at h; cases h
        | some q =>
          rw [e] at h
          have h : some (rmA A q, 22, [gw ws 1]) = some (A', j, as) := h
          cases h
          exact del (by omega) rfl
      · rw [if_neg d] at h
        cases h
        rw [sz_cons, sz_cons]; omega
  have ei : ∀ {t : Int64}, 1 < ws.length → eiF t now false A (gw ws 1) = some (A', j, as) → 66 + sz as ≤ 26 * rw ws := by
    intro t h1l h
    have r2 := rw_2 h1l
    unfold eiF at h
    cases e : kyI A (gw ws 1) with
    | none => rw [e] at h; cases h
    | some q =>
      rw [e] at h
      have h : (if t ≤ now ∧ false = false then some (rmA A q, 22, [gw ws 1]) else some (upA A q (exF t), 33, [gw ws 1, dec t])) = some (A', j, as) := h
      by_cases d : t ≤ now ∧ false = false
      · rw [if_pos d] at h; cases h
        exact del h1l rfl
      · rw [if_neg d] at h; cases h
        have dl := dec_len t
        rw [sz_cons, sz_cons]; show 66 + ((gw ws 1).length + 26 + ((dec t).length + 26 + 0)) ≤ _; omega
  unfold rnF at h
  by_cases c2 : i = 2
  · subst c2
    rw [if_pos rfl] at h
    obtain ⟨q, hq, h⟩ := bind_some h
    have q0 : 2 ≤ ws.length - 1 := q1
    by_cases s : sfB 2 q.1.2.2.1 ws A = true
    · rw [if_pos s] at h
      exact se 2 (by omega) (by omega) h
    · rw [if_neg s] at h; cases h
  · rw [if_neg c2] at h
    by_cases s : sfB i 0 ws A = true
    · rw [if_pos s] at h
      by_cases c : i ∈ tiI
      · rw [if_pos c] at h
        have cs : i = 3 ∨ i = 4 ∨ i = 5 ∨ i = 6 ∨ i = 7 ∨ i = 30 ∨ i = 31 ∨ i = 32 ∨ i = 33 := by
          simpa [tiI] using c
        rcases cs with rfl | rfl | rfl | rfl | rfl | rfl | rfl | rfl | rfl
        · have q0 : 1 ≤ ws.length - 1 := q1
          have h : (if kyI A (gw ws 1) = none then none else some (delA A (gw ws 1), 22, [gw ws 1])) = some (A', j, as) := h
          by_cases z : kyI A (gw ws 1) = none
          · rw [if_pos z] at h; cases h
          · rw [if_neg z] at h; cases h
            exact del (by omega) rfl
        · have q0 : 2 ≤ ws.length - 1 := q1
          exact se 2 (by omega) (by omega) h
        · have q0 : 2 ≤ ws.length - 1 := q1
          exact se 2 (by omega) (by omega) h
        · have q0 : 3 ≤ ws.length - 1 := q1
          obtain ⟨t, ht, h⟩ := bind_some h
          exact se 3 (by omega) (by omega) h
        · have q0 : 3 ≤ ws.length - 1 := q1
          obtain ⟨t, ht, h⟩ := bind_some h
          exact se 3 (by omega) (by omega) h
        · have q0 : 2 ≤ ws.length - 1 := q1
          obtain ⟨t, ht, h⟩ := bind_some h
          exact ei (by omega) h
        · have q0 : 2 ≤ ws.length - 1 := q1
          obtain ⟨t, ht, h⟩ := bind_some h
          exact ei (by omega) h
        · have q0 : 2 ≤ ws.length - 1 := q1
          obtain ⟨t, ht, h⟩ := bind_some h
          exact ei (by omega) h
        · have q0 : 2 ≤ ws.length - 1 := q1
          obtain ⟨t, ht, h⟩ := bind_some h
          exact ei (by omega) h
      · rw [if_neg c] at h
        unfold nW at h
        cases e : coF i ws A with
        | none => rw [e] at h; cases h
        | some B =>
          rw [e] at h
          have h : some (B, i, ws.drop 1) = some (A', j, as) := h
          cases h
          cases ws with
          | nil => exact absurd hw (by decide)
          | cons w0 r =>
            have zr := sz_rw r
            have b0 : w0.length + 1 ≤ rw1 w0 ∧ 2 ≤ rw1 w0 := b0
            have h0 : 3 ≤ w0.length := h0
            show 66 + sz r ≤ 26 * (rw1 w0 + rw r)
            omega
    · rw [if_neg s] at h; cases h
theorem up_let {x : Int32} (h : ¬ (x < 65 ∨ 90 < x)) : ∃ n : Nat, n < 26 ∧ x = Int32.ofInt (65 + (n : Int)) := by
  have h1 : (65 : Int) ≤ x.toInt := Int.not_lt.mp (fun z => h (Or.inl (Int32.lt_iff_toInt_lt.mpr z)))
  have h2 : x.toInt ≤ (90 : Int) := Int.not_lt.mp (fun z => h (Or.inr (Int32.lt_iff_toInt_lt.mpr z)))
  refine ⟨(x.toInt - 65).toNat, by omega, ?_⟩
  rw [show 65 + ((x.toInt - 65).toNat : Int) = x.toInt by omega, Int32.ofInt_toInt]
theorem lkF_no {A B : Nat → Int64} {p : Int64 × Int64} : ∀ (m i : Nat), (∀ k, i ≤ k → k < i + m → A k ≠ p.1) → lkF A B p m i = 0 := by
  intro m
  induction m with
  | zero => intro i _; rfl
  | succ m ih =>
    intro i h
    show (if A i = p.1 ∧ B i = p.2 then i else lkF A B p m (i + 1)) = 0
    rw [if_neg (fun z => h i (Nat.le_refl _) (by omega) z.1)]
    exact ih (i + 1) (fun k a b => h k (by omega) (by omega))
theorem cA_big : ∀ i, i < 106 → 1 ≤ i → (65536 : Int64) ≤ cA.getD i 0 := by decide +kernel
theorem sh_1 : ∀ a, a < 26 → shB 0 (Int32.ofInt (65 + ((a : Nat) : Int))) < 65536 := by decide +kernel
theorem sh_2 : ∀ a, a < 26 → ∀ b, b < 26 → shB (shB 0 (Int32.ofInt (65 + ((a : Nat) : Int)))) (Int32.ofInt (65 + ((b : Nat) : Int))) < 65536 := by decide +kernel
theorem cm_small {p : Int64 × Int64} (h : p.1 < 65536) : lkF (fun i => cA.getD i 0) (fun i => cB.getD i 0) p 105 1 = 0 :=
  lkF_no 105 1 (fun k a b z => by
    have h1 := cA_big k (by omega) a
    rw [show cA.getD k 0 = p.1 from z] at h1
    exact absurd h (Int64.not_lt.mpr h1))
/-- every command's name has three letters or more -/
theorem cm_len {w : List Int32} (h : 1 ≤ cmC w) : 3 ≤ w.length := by
  refine Nat.le_of_not_lt (fun z => absurd h ?_)
  have e : cmC w = 0 := by
    unfold cmC cmF
    rw [if_neg (by omega)]
    cases w with
    | nil => exact cm_small (p := (0, 0)) (by decide)
    | cons a r =>
      show (match (if up a < 65 ∨ 90 < up a then none else pkL r 1 (shB 0 (up a), 0)) with | none => 0 | some p => lkF _ _ p 105 1) = 0
      by_cases c : up a < 65 ∨ 90 < up a
      · rw [if_pos c]
      · rw [if_neg c]
        obtain ⟨n, hn, en⟩ := up_let c
        cases r with
        | nil => exact cm_small (p := (shB 0 (up a), 0)) (by rw [en]; exact sh_1 n hn)
        | cons b r =>
          cases r with
          | cons x r => exact absurd z (by show ¬ r.length + 1 + 1 + 1 < 3; omega)
          | nil =>
            show (match (if up b < 65 ∨ 90 < up b then none else some (shB (shB 0 (up a)) (up b), 0)) with | none => 0 | some p => lkF _ _ p 105 1) = 0
            by_cases d : up b < 65 ∨ 90 < up b
            · rw [if_pos d]
            · rw [if_neg d]
              obtain ⟨m, hm, em⟩ := up_let d
              exact cm_small (p := (shB (shB 0 (up a)) (up b), 0)) (by rw [en, em]; exact sh_2 n hn m hm)
  omega
theorem cm_rw {ws : Req} (hw : 1 ≤ ws.length) (h : 1 ≤ cmC (gw ws 0)) : 4 ≤ rw ws := by
  have := cm_len h
  have := rw1_b (gw ws 0)
  have := rw_at ws 0 hw
  omega
end COST
