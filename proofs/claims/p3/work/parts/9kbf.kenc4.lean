/-! What a queued request takes of the reserve. -/
section KENC4
theorem wz_4 (w : List Int32) (h : w.length < 1000000) : (wordL w).length ≤ 4 * rw1 w ∧ (3 ≤ w.length → (wordL w).length + 7 ≤ 4 * rw1 w) := by
  rw [wordL_l]
  have b := rw1_b w
  by_cases c : w.length < 10
  · have := dl_1 (n := w.length) c
    exact ⟨by omega, fun _ => by omega⟩
  · have := dl_6 h
    exact ⟨by omega, fun _ => by omega⟩
theorem wzs_4 : ∀ r : Req, (∀ w ∈ r, w.length ≤ 16384) → (wordsL r).length ≤ 4 * rw r
  | [], _ => Nat.zero_le _
  | w :: r, h => by
    have h1 := (wz_4 w (by have := h w (List.mem_cons_self ..); omega)).1
    have h2 := wzs_4 r (fun x hx => h x (List.mem_cons_of_mem _ hx))
    rw [wL_c]
    show _ ≤ 4 * (rw1 w + rw r)
    omega
theorem dl_4 {n : Nat} (hn : n ≤ 1024) : (dec (lN n)).length ≤ 4 := dl_b (by omega) (by decide) (by omega)
/-- any request -/
theorem enc_4g {ws : Req} (h1024 : ws.length ≤ 1024) (h : ∀ w ∈ ws, w.length ≤ 16384) : (encR ws).length ≤ 4 * rw ws + 7 := by
  have := dl_4 h1024
  have := wzs_4 ws h
  rw [encR_l]; omega
/-- one whose command has three letters at least -/
theorem enc_4 {ws : Req} (hw : 1 ≤ ws.length) (h1024 : ws.length ≤ 1024) (h : ∀ w ∈ ws, w.length ≤ 16384) (h3 : 3 ≤ (gw ws 0).length) : (encR ws).length ≤ 4 * rw ws := by
  have d := dl_4 h1024
  cases ws with
  | nil => simp at hw
  | cons w r =>
    have h3 : 3 ≤ w.length := h3
    have h1 := (wz_4 w (by have := h w (List.mem_cons_self ..); omega)).2 h3
    have h2 := wzs_4 r (fun x hx => h x (List.mem_cons_of_mem _ hx))
    rw [encR_l, wL_c]
    show _ ≤ 4 * (rw1 w + rw r)
    omega
/-- requests that wait in a block -/
theorem encs_4 : ∀ qs : List Req, (∀ q ∈ qs, 1 ≤ q.length ∧ q.length ≤ 1024 ∧ (∀ w ∈ q, w.length ≤ 16384) ∧ 3 ≤ (gw q 0).length) → (encs qs).length ≤ 4 * rqs qs
  | [], _ => Nat.zero_le _
  | q :: r, h => by
    obtain ⟨a, b, c, d⟩ := h q (List.mem_cons_self ..)
    have h1 := enc_4 a b c d
    have h2 := encs_4 r (fun x hx => h x (List.mem_cons_of_mem _ hx))
    have e : (encs (q :: r)).length = (encR q).length + (encs r).length := by
      show (List.flatMap encR (q :: r)).length = _
      rw [List.flatMap_cons, List.length_append]; rfl
    rw [e]
    show _ ≤ 4 * (rw q + rqs r)
    omega
end KENC4
