/-! What the class notes costs, paid by the fed bytes. -/
section KCOST
theorem dl_6 {n : Nat} (hn : n < 1000000) : (dec (lN n)).length ≤ 6 := by
  obtain ⟨h1, -, h2, -⟩ := dec_lN hn
  rw [h1]; exact h2
theorem dl_2 {n : Nat} (hn : n < 100) : (dec (lN n)).length ≤ 2 := by
  obtain ⟨h1, -, -, -⟩ := dec_lN (n := n) (by omega)
  rw [h1]; exact (decN_len2 2 19 n (by omega) (by decide)).2
theorem dl_1 {n : Nat} (hn : n < 10) : (dec (lN n)).length ≤ 1 := by
  obtain ⟨h1, -, -, -⟩ := dec_lN (n := n) (by omega)
  rw [h1]; exact (decN_len2 1 19 n (by omega) (by decide)).2
theorem wz_d (w : List Int32) (h : w.length < 100) : (wordL w).length ≤ w.length + 7 := by
  have := dl_2 h
  rw [wordL_l]; omega
theorem wz_5 (w : List Int32) (h : w.length < 1000000) : (wordL w).length + 5 ≤ 6 * rw1 w := by
  rw [wordL_l]
  have b := rw1_b w
  by_cases c : w.length < 2
  · have := dl_1 (n := w.length) (by omega)
    omega
  · have := dl_6 h
    omega
theorem wzs_le : ∀ r : Req, (∀ w ∈ r, WOK w) → (wordsL r).length ≤ 6 * rw r
  | [], _ => Nat.zero_le _
  | w :: r, h => by
    have h1 := wz_5 w (by have := (h w (List.mem_cons_self ..)).1; omega)
    have h2 := wzs_le r (fun x hx => h x (List.mem_cons_of_mem _ hx))
    show (wordL w ++ wordsL r).length ≤ 6 * (rw1 w + rw r)
    rw [List.length_append]; omega
theorem wL_1 (a : List Int32) : wordsL [a] = wordL a := by unfold wordsL; simp
theorem wL_c (a : List Int32) (r : Req) : (wordsL (a :: r)).length = (wordL a).length + (wordsL r).length := by
  unfold wordsL; rw [List.flatMap_cons, List.length_append]
theorem rw_35 {ws : Req} (h : 5 ≤ ws.length) : rw1 (gw ws 0) + rw1 (gw ws 1) + rw1 (gw ws 2) + 3 ≤ rw ws := by
  match ws, h with
  | a :: b :: c :: d :: e :: r, _ =>
    have h1 := rw1_b d
    have h2 := rw1_b e
    show rw1 a + rw1 b + rw1 c + 3 ≤ rw1 a + (rw1 b + (rw1 c + (rw1 d + (rw1 e + rw r))))
    omega
theorem rw_36 {ws : Req} (h : 4 ≤ ws.length) (h5 : 5 ≤ (gw ws 0).length) : 4 + rw1 (gw ws 1) + rw1 (gw ws 3) + 3 ≤ rw ws := by
  match ws, h, h5 with
  | a :: b :: c :: d :: r, _, h5 =>
    have h5 : 5 ≤ a.length := h5
    have h1 := rw1_b a
    have h2 := rw1_b c
    show 4 + rw1 b + rw1 d + 3 ≤ rw1 a + (rw1 b + (rw1 c + (rw1 d + rw r)))
    omega
theorem nm_w : (wordL (nm 2)).length ≤ 9 ∧ (wordL (nm 22)).length ≤ 9 ∧ (wordL (nm 33)).length ≤ 15 ∧ (wordL pXT).length ≤ 10 ∧ (wordL kTT).length ≤ 13 := by decide +kernel
theorem ns_6 (keep timed : Int32) (t : Int64) : (wordsL (nsW keep timed t)).length ≤ (if timed = 0 then 13 else 37) := by
  obtain ⟨-, -, -, n4, n5⟩ := nm_w
  unfold nsW
  by_cases z : keep = 0
  · rw [if_pos z]
    by_cases y : timed = 0
    · rw [if_pos y, if_pos y]; exact Nat.zero_le _
    · rw [if_neg y, if_neg y]
      have dl := dec_20 t
      have := wz_d (dec t) (by omega)
      rw [wL_c, wL_1]; omega
  · rw [if_neg z, wL_1]; split <;> omega
/-- what a live command notes -/
theorem live_6 {i : Nat} {ws : Req} {now : Int64} {A A' : List AK} {j : Nat} {as : List (List Int32)} (hw : 1 ≤ ws.length) (hi : i ≤ 105) (h1024 : ws.length ≤ 1024) (hW : ∀ w ∈ ws, WOK w) (af : afX i (ws.length - 1) = true) (h0 : 3 ≤ (gw ws 0).length) (hN : (nm i).length ≤ (gw ws 0).length) (h : rnF i ws now false A = some (A', j, as)) : (encR (nm j :: as)).length ≤ 6 * rw ws := by
  obtain ⟨q1, q2, q3⟩ := af_lo (by omega) (by omega) af
  obtain ⟨n1, n2, n3, n4, n5⟩ := nm_w
  have b0 := rw1_b (gw ws 0)
  have b1 := rw1_b (gw ws 1)
  have hwl : ∀ k, k < ws.length → (gw ws k).length < 1000000 := fun k hk => by have := (hW _ (gw_mem hk)).1; omega
  have del : 1 < ws.length → as = [gw ws 1] → j = 22 → (encR (nm j :: as)).length ≤ 6 * rw ws := by
    intro hl e ej
    have := rw_2 hl
    have w1 := wz_5 (gw ws 1) (hwl 1 hl)
    have d := dl_1 (n := 2) (by decide)
    rw [e, ej, encR_l, wL_c, wL_1]
    show (dec (lN 2)).length + 3 + _ ≤ _
    omega
  have se : ∀ {go : Bool} {keep timed : Int32} {t : Int64} (n : Nat), 2 ≤ n → n < ws.length → ((¬ timed = 0) → 4 + rw1 (gw ws 1) + rw1 (gw ws n) + 3 ≤ rw ws) → seF go keep timed t now false A (gw ws 1) (gw ws n) = some (A', j, as) → (encR (nm j :: as)).length ≤ 6 * rw ws := by
    intro go keep timed t n n2' nl ht h
    have r3 := rw_3 n2' nl
    have nz := ns_6 keep timed t
    have w1 := wz_5 (gw ws 1) (hwl 1 (by omega))
    have wn := wz_5 (gw ws n) (hwl n nl)
    unfold seF at h
    by_cases c : go = false
    · rw [if_pos c] at h; cases h
    · rw [if_neg c] at h
      by_cases d : (¬ timed = 0) ∧ t ≤ now ∧ false = false
      · rw [if_pos d] at h
        cases e : kyI A (gw ws 1) with
        | none => rw [e] at h; cases h
        | some q =>
          rw [e] at h
          have h : some (rmA A q, 22, [gw ws 1]) = some (A', j, as) := h
          cases h
          exact del (by omega) rfl rfl
      · rw [if_neg d] at h
        cases h
        have hl : (nsW keep timed t).length ≤ 2 := by
          unfold nsW
          split
          · split <;> simp
          · simp
        have dd := dl_1 (n := (nm 2 :: gw ws 1 :: gw ws n :: nsW keep timed t).length) (by simp only [List.length_cons]; omega)
        rw [encR_l, wL_c, wL_c, wL_c]
        by_cases y : timed = 0
        · rw [if_pos y] at nz; omega
        · rw [if_neg y] at nz
          have := ht y
          omega
  have ei : ∀ {t : Int64}, 2 < ws.length → 6 ≤ (gw ws 0).length → eiF t now false A (gw ws 1) = some (A', j, as) → (encR (nm j :: as)).length ≤ 6 * rw ws := by
    intro t h1l h6 h
    have r3 := rw_3 (n := 2) (by decide) h1l
    have b2 := rw1_b (gw ws 2)
    have w1 := wz_5 (gw ws 1) (hwl 1 (by omega))
    unfold eiF at h
    cases e : kyI A (gw ws 1) with
    | none => rw [e] at h; cases h
    | some q =>
      rw [e] at h
      have h : (if t ≤ now ∧ false = false then some (rmA A q, 22, [gw ws 1]) else some (upA A q (exF t), 33, [gw ws 1, dec t])) = some (A', j, as) := h
      by_cases d : t ≤ now ∧ false = false
      · rw [if_pos d] at h; cases h
        exact del (by omega) rfl rfl
      · rw [if_neg d] at h; cases h
        have dl := dec_20 t
        have wt := wz_d (dec t) (by omega)
        have dd := dl_1 (n := 3) (by decide)
        rw [encR_l, wL_c, wL_c, wL_1]
        show (dec (lN 3)).length + 3 + _ ≤ _
        omega
  unfold rnF at h
  by_cases c2 : i = 2
  · subst c2
    rw [if_pos rfl] at h
    obtain ⟨q, hq, h⟩ := bind_some h
    have q0 : 2 ≤ ws.length - 1 := q1
    by_cases s : sfB 2 q.1.2.2.1 ws A = true
    · rw [if_pos s] at h
      exact se 2 (by omega) (by omega) (fun z => by
        have o5 := osR_5 hq (by
          cases y : q.2 with
          | none => rw [y] at z; exact absurd rfl z
          | some t => rfl)
        have r5 := rw_35 (ws := ws) (by omega)
        omega) h
    · rw [if_neg s] at h; cases h
  · rw [if_neg c2] at h
    by_cases s : sfB i 0 ws A = true
    · rw [if_pos s] at h
      by_cases c : i ∈ tiI
      · rw [if_pos c] at h
        have cs : i = 3 ∨ i = 4 ∨ i = 5 ∨ i = 6 ∨ i = 7 ∨ i = 30 ∨ i = 31 ∨ i = 32 ∨ i = 33 := by
          simpa [tiI] using c
        rcases cs with rfl | rfl | rfl | rfl | rfl | rfl | rfl | rfl | rfl
        · have q0 : 1 ≤ ws.length - 1 := q1
          have h : (if kyI A (gw ws 1) = none then none else some (delA A (gw ws 1), 22, [gw ws 1])) = some (A', j, as) := h
          by_cases z : kyI A (gw ws 1) = none
          · rw [if_pos z] at h; cases h
          · rw [if_neg z] at h; cases h
            exact del (by omega) rfl rfl
        · have q0 : 2 ≤ ws.length - 1 := q1
          exact se 2 (by omega) (by omega) (fun z => absurd rfl z) h
        · have q0 : 2 ≤ ws.length - 1 := q1
          exact se 2 (by omega) (by omega) (fun z => absurd rfl z) h
        · have q0 : 3 ≤ ws.length - 1 := q1
          obtain ⟨t, ht, h⟩ := bind_some h
          exact se 3 (by omega) (by omega) (fun _ => by
            have n5 : 5 ≤ (gw ws 0).length := Nat.le_trans (by decide) hN
            exact rw_36 (by omega) (by omega)) h
        · have q0 : 3 ≤ ws.length - 1 := q1
          obtain ⟨t, ht, h⟩ := bind_some h
          exact se 3 (by omega) (by omega) (fun _ => by
            have n5 : 5 ≤ (gw ws 0).length := Nat.le_trans (by decide) hN
            exact rw_36 (by omega) (by omega)) h
        · have q0 : 2 ≤ ws.length - 1 := q1
          obtain ⟨t, ht, h⟩ := bind_some h
          exact ei (by omega) (Nat.le_trans (by decide) hN) h
        · have q0 : 2 ≤ ws.length - 1 := q1
          obtain ⟨t, ht, h⟩ := bind_some h
          exact ei (by omega) (Nat.le_trans (by decide) hN) h
        · have q0 : 2 ≤ ws.length - 1 := q1
          obtain ⟨t, ht, h⟩ := bind_some h
          exact ei (by omega) (Nat.le_trans (by decide) hN) h
        · have q0 : 2 ≤ ws.length - 1 := q1
          obtain ⟨t, ht, h⟩ := bind_some h
          exact ei (by omega) (Nat.le_trans (by decide) hN) h
      · rw [if_neg c] at h
        unfold nW at h
        cases e : coF i ws A with
        | none => rw [e] at h; cases h
        | some B =>
          rw [e] at h
          have h : some (B, i, ws.drop 1) = some (A', j, as) := h
          cases h
          cases ws with
          | nil => exact absurd hw (by decide)
          | cons w0 r =>
            have h0 : 3 ≤ w0.length := h0
            have hN : (nm i).length ≤ w0.length := hN
            have zr := wzs_le r (fun w hw => hW w (List.mem_cons_of_mem _ hw))
            have b0 : w0.length + 1 ≤ rw1 w0 ∧ 2 ≤ rw1 w0 := b0
            have n16 := (nm_ok i (by omega)).1
            have nn := wz_d (nm i) (by omega)
            have hd := dl_6 (n := (nm i :: r).length) (by simp only [List.length_cons] at h1024 ⊢; omega)
            rw [encR_l]
            show (dec (lN (nm i :: r).length)).length + 3 + (wordL (nm i) ++ wordsL r).length ≤ 6 * (rw1 w0 + rw r)
            rw [List.length_append]
            omega
    · rw [if_neg s] at h; cases h
end KCOST
