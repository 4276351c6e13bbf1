/-! What holds of every live list of the class, with so many fed bytes not used yet. -/
section LJS
theorem txB_mem : ∀ A : List AK, txB A ≤ memB A
  | [] => Nat.le_refl _
  | a :: r => by
    have h := txB_mem r
    have h1 : txQ a ≤ kM a := by unfold txQ kM; split <;> omega
    show txQ a + txB r ≤ kM a + memB r
    omega
theorem kM_mem {A : List AK} {a : AK} (h : a ∈ A) : kM a ≤ memB A := by
  obtain ⟨P, Q, e⟩ := List.append_of_mem h
  rw [e, memB_app]; show _ ≤ memB P + (kM a + memB Q); omega
theorem oS_mem : ∀ A : List AK, 48 * oS A ≤ memB A
  | [] => Nat.le_refl _
  | a :: r => by
    have h := oS_mem r
    have h1 : 48 * oK a ≤ kM a := by
      unfold oK kM
      by_cases c : a.2.1 = 4
      · rw [if_pos c, c, show memW 4 = 48 from rfl]; omega
      · rw [if_neg c]; omega
    show 48 * (oK a + oS r) ≤ kM a + memB r
    omega
theorem OC_mem {A : List AK} {m : Nat} (h : memB A < 48 * (m + 1)) : OC m A := by
  have := oS_mem A
  unfold OC; omega
def LJ (A : List AK) (p : Nat) : Prop := LI A p ∧ txB A ≤ 76384 ∧ OC 2300 A ∧ 67 * tS A + 4 * uS A + 8 * p ≤ 81920 ∧ memB A + (67 * tS A + 4 * uS A) + 8 * p ≤ 202048 ∧ vS A + p ≤ 10240
theorem LJ.less {A : List AK} {p q : Nat} (h : LJ A p) (hq : q ≤ p) : LJ A q := ⟨h.1.less hq, h.2.1, h.2.2.1, by have := h.2.2.2.1; omega, by have := h.2.2.2.2.1; omega, by have := h.2.2.2.2.2; omega⟩
theorem LJ_nil (p : Nat) (h : p ≤ 10240) : LJ [] p := ⟨LI_nil p h, Nat.zero_le _, Nat.zero_le _, by show 67 * 0 + 4 * 0 + 8 * p ≤ _; omega, by show 0 + (67 * 0 + 4 * 0) + 8 * p ≤ _; omega, by show 0 + p ≤ _; omega⟩
theorem LJ_step {A A' : List AK} {p : Nat} {ws : Req} {hv : Bool} (h : LJ A p) (hr : rw ws ≤ p) (hw : 1 ≤ ws.length) (h1024 : ws.length ≤ 1024) (hA' : IA A') (g : GR hv ws A A') (x : GRX hv ws A A') (hh : hv = true → memB A < 60000) : LJ A' (p - rw ws) := by
  have hl := LI_step h.1 hr h1024 hA' g hh
  have r1 := rw_ge ws
  have hp : p ≤ 10240 := by have := h.2.2.2.2.2; omega
  obtain ⟨-, h2, h3, h4, h5, h6⟩ := h
  obtain ⟨x1, x2, x3, x4⟩ := x
  have e1 := x1.e hw
  cases hv with
  | false =>
    obtain ⟨k1, k2, k3⟩ := x3 rfl
    exact ⟨hl, by omega, k2 _ h3, by omega, by omega, by omega⟩
  | true =>
    have hm := hh rfl
    obtain ⟨k1, k2⟩ := x4 rfl
    have t := txB_mem A
    have o := k2 _ (OC_mem (m := 1249) (by omega))
    obtain ⟨⟨m1, m2⟩, -⟩ := g.2.2 rfl
    refine ⟨hl, by omega, o.up (by omega), by omega, ?_, by omega⟩
    have r0 := rw_0 (ws := ws) (k := 1) (Nat.le_refl _) hw
    have g1 := gw_sl ws 1
    rcases x1 with x1 | x1
    · rcases m2 with m2 | m2
      · omega
      · omega
    · rcases m2 with m2 | m2
      · omega
      · omega
theorem LJ_rm {A : List AK} {P p : Nat} (h : LJ A P) : LJ (rmA A p) P := by
  have k := (rmUN (p := p) h.1.1).2
  obtain ⟨h1, h2, h3, h4, h5, h6⟩ := h
  exact ⟨LI_rm h1, by have := k.1; omega, (k.2.2.1 _ h3).up (by omega), by have := k.2.1; omega, by have := k.2.1; have := k.2.2.2.1; omega, by have := k.2.2.2.2; omega⟩
end LJS
