/-! What a live request adds to the class's log, with the times of its keys. -/
section KCOST2
variable {ks : List KC} {ws : Req} {p j : Nat} {now : Int64}
theorem rw_2n {ws : Req} (h : 2 ≤ ws.length) : rw1 (gw ws 0) + rw1 (gw ws 1) + 2 * (ws.length - 2) ≤ rw ws := by
  match ws, h with
  | a :: b :: r, _ =>
    have := (rw_ge r).1
    show rw1 a + rw1 b + 2 * (r.length + 1 + 1 - 2) ≤ rw1 a + (rw1 b + rw r)
    omega
theorem del_6 (hW : ∀ w ∈ ws, WOK w) (hl : 1 < ws.length) (h0 : 3 ≤ (gw ws 0).length) : (encR [nm 22, gw ws 1]).length ≤ 6 * rw ws := by
  obtain ⟨n1, n2, n3, n4, n5⟩ := nm_w
  have b0 := rw1_b (gw ws 0)
  have := rw_2 hl
  have w1 := wz_5 (gw ws 1) (by have := (hW _ (gw_mem hl)).1; omega)
  have d := dl_1 (n := 2) (by decide)
  rw [encR_l, wL_c, wL_1]
  show (dec (lN 2)).length + 3 + _ ≤ _
  omega
/-- what the times of keys may ask for yet -/
def tmK (A : List AK) : Nat := 19 * tS A + 2 * uS A
theorem K_cost (h : LJ (skA ks) p) (hW : ∀ w ∈ ws, WOK w) (h1024 : ws.length ≤ 1024) (hj : j < 105) (htk : tkP j (nI (ws.length - 1))) (hw : 1 ≤ ws.length) (hnm : (gw ws 0).map up = tb (txC j)) (g1 : rid j = 2 → 2 ≤ ws.length) {A' : List AK} {i : Nat} {as : List (List Int32)} (e : rnC 0 now ks j ws = some (A', i, as)) : (encR (nm i :: as)).length + tmK A' ≤ tmK (skA ks) + 8 * rw ws := by
  obtain ⟨c, hs, q⟩ := rnC_live e
  have hR := rid_rng j hj
  have haf : afX (rid j) (ws.length - 1) = true := tk_af hj (by omega) htk
  have hA := h.1.1
  have hl := nm_len hj hnm
  have hc : cmC (gw ws 0) = rid j := nmC_cm hj hnm
  have h3 : 3 ≤ (gw ws 0).length := cm_len (by rw [hc]; exact hR.1)
  have r1 := rw_ge ws
  unfold tmK
  rcases q with ⟨k, k1, rfl, rfl, rfl, k2⟩ | q
  · have u := (rmUN (p := k) hA).2
    have := del_6 hW (by have := g1 k2; omega) h3
    have u2 := u.2.1
    omega
  · have n6 := live_6 hw hR.2 h1024 hW haf h3 (by omega) q
    have hx := gr_rnN hA hW hw h1024 (by omega) haf (by omega) q
    rcases hx.1 with ⟨x1, x2⟩ | ⟨x1, x2, x3⟩
    · omega
    · by_cases c2 : 2 ≤ ws.length
      · have := rw_2n c2
        have b0 := rw1_b (gw ws 0)
        have b1 := rw1_b (gw ws 1)
        omega
      · have e1 : gw ws 1 = [] := by unfold gw; rw [List.getD_eq_getElem?_getD, List.getElem?_eq_none (by omega)]; rfl
        rw [e1] at x2
        simp only [List.length_nil] at x2
        have := rw_at ws 0 (by omega)
        have b0 := rw1_b (gw ws 0)
        omega
end KCOST2
