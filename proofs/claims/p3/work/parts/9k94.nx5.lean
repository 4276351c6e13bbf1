/-! The same of every request. -/
section NX5
theorem osF_2 {f f' : F4} {mt : Nat × List Int32} : ∀ r : List (List Int32), osF r f none = some (f', some mt) → 2 ≤ r.length
  | [], h => by cases h
  | [w], h => by
    have h : (osT w f none).map (fun f => (f, (none : Option (Nat × List Int32)))) = some (f', some mt) := h
    cases e : osT w f none with
    | none => rw [e] at h; cases h
    | some g => rw [e] at h; cases h
  | _ :: _ :: r, _ => by show 2 ≤ r.length + 1 + 1; omega
theorem osR_5 {ws : Req} {now : Int64} {q : F4 × Option Int64} (h : osR ws now = some q) (z : q.2.isSome = true) : 5 ≤ ws.length := by
  unfold osR at h
  obtain ⟨q0, h1, h2⟩ := bind_some h
  obtain ⟨f', o'⟩ := q0
  cases o' with
  | none =>
    have h2 : some (f', none) = some q := h2
    cases h2; cases z
  | some mt =>
    have := osF_2 _ h1
    rw [List.length_drop] at this; omega
/-- keys with a time: none comes, or one at a price -/
def TMX (ws : Req) (A A' : List AK) : Prop := (tS A' ≤ tS A ∧ uS A' ≤ uS A + sl ws) ∨ (tS A' ≤ tS A + 1 ∧ uS A' ≤ uS A + (gw ws 1).length ∧ 12 ≤ (gw ws 0).length + 2 * ws.length)
theorem TMX.e {ws : Req} {A A' : List AK} (hw : 1 ≤ ws.length) (h : TMX ws A A') : 67 * tS A' + 4 * uS A' ≤ 67 * tS A + 4 * uS A + 8 * rw ws := by
  have r0 := rw_0 (ws := ws) (k := 1) (Nat.le_refl _) hw
  have r1 := rw_ge ws
  rcases h with h | h
  · omega
  · omega
def GRX (hv : Bool) (ws : Req) (A A' : List AK) : Prop := TMX ws A A' ∧ vS A' ≤ vS A + rw ws ∧ (hv = false → txB A' ≤ txB A ∧ (∀ X, OC X A → OC X A') ∧ memB A' + (67 * tS A' + 4 * uS A') ≤ memB A + (67 * tS A + 4 * uS A) + 8 * rw ws) ∧ (hv = true → (txB A' ≤ txB A + 16384 ∨ txB A' ≤ txB A + sl ws) ∧ ∀ X, OC X A → OC (X + ws.length) A')
theorem GRN.x {hv : Bool} {ws : Req} {A A' : List AK} (h : GRN hv ws A A') : GRX hv ws A A' := by
  obtain ⟨⟨h1, h2⟩, h3, h4, h5⟩ := h
  exact ⟨Or.inl ⟨h1, h2⟩, h3, fun z => ⟨(h4 z).1, (h4 z).2.1, by have := (h4 z).2.2; omega⟩, h5⟩
theorem MSP.grx {A A' : List AK} {ws : Req} {y e f g : Nat} {hv : Bool} (hw : 1 ≤ ws.length) (h : MSP A A' y e f g) (hy : y ≤ 16384 ∨ y ≤ sl ws) (h0 : hv = false → y = 0 ∧ memB A' ≤ memB A) (he : TMX ws A A') (hg : g ≤ rw ws) : GRX hv ws A A' := by
  have t := he.e hw
  obtain ⟨h1, ⟨h2, h3⟩, h4, h5⟩ := h
  exact ⟨he, by omega, fun z => ⟨by have := (h0 z).1; omega, h4, by have := (h0 z).2; omega⟩, fun _ => ⟨by omega, fun X hX => (h4 X hX).up (by omega)⟩⟩
theorem MSN.p {A A' : List AK} {n g : Nat} (h : MSN A A' 0 0 0 0 0) : MSP A A' n 0 0 g := ⟨by have := h.1; omega, h.2.1, fun X hX => h.2.2.1 X hX, by have := h.2.2.2.2; omega⟩
theorem p_se {A A' : List AK} {go : Bool} {keep timed : Int32} {t now : Int64} {rp : Bool} {w v : List Int32} {j : Nat} {as : List (List Int32)} (hA : IA A) (hw : WOK w) (h : seF go keep timed t now rp A w v = some (A', j, as)) : MSP A A' v.length (if timed = 0 then 0 else 1) (if timed = 0 then 0 else w.length) w.length := by
  unfold seF at h
  by_cases c : go = false
  · rw [if_pos c] at h; cases h
  · rw [if_neg c] at h
    by_cases d : (¬ timed = 0) ∧ t ≤ now ∧ rp = false
    · rw [if_pos d] at h
      cases e : kyI A w with
      | none => rw [e] at h; cases h
      | some p =>
        rw [e] at h
        have h : some (rmA A p, 22, [w]) = some (A', j, as) := h
        cases h
        exact (rmUN (p := p) hA).2.p.up (Nat.le_refl _) (Nat.zero_le _) (Nat.zero_le _) (Nat.le_refl _)
    · rw [if_neg d] at h
      cases h
      exact p_st hA hw
theorem p_ei {A A' : List AK} {w : List Int32} {t now : Int64} {rp : Bool} {j : Nat} {as : List (List Int32)} (hA : IA A) (hw : WOK w) (h : eiF t now rp A w = some (A', j, as)) : MSP A A' 0 1 w.length w.length ∧ memB A' ≤ memB A := by
  unfold eiF at h
  cases e : kyI A w with
  | none => rw [e] at h; cases h
  | some p =>
    rw [e] at h
    obtain ⟨a, ha, hc⟩ := kyI_get e
    have h : (if t ≤ now ∧ rp = false then some (rmA A p, 22, [w]) else some (upA A p (exF t), 33, [w, dec t])) = some (A', j, as) := h
    by_cases c : t ≤ now ∧ rp = false
    · rw [if_pos c] at h; cases h; exact ⟨(rmUN (p := p) hA).2.p.up (Nat.le_refl _) (Nat.zero_le _) (Nat.zero_le _) (Nat.le_refl _), (rmUN (p := p) hA).2.2.2.2.1⟩
    · rw [if_neg c] at h; cases h
      have ea : a.1 = w := cmpW_eq _ _ (hA.2 a (List.mem_of_getElem? ha)).1.2 hw.2 hc
      obtain ⟨P, Q, rfl, rfl⟩ := get_split ha
      rw [upA_at]
      have k1 : txQ (exF t a) = txQ a := rfl
      have k2 : tK (exF t a) = 1 := rfl
      have k3 : uK (exF t a) = a.1.length := rfl
      have k4 : vK (exF t a) = vK a := rfl
      have k5 : kM (exF t a) = kM a := rfl
      have hm : ∀ z : AK, memB (P ++ z :: Q) = memB P + (kM z + memB Q) := fun z => memB_app P (z :: Q)
      have k6 : oK (exF t a) = oK a := rfl
      exact ⟨⟨by rw [txB_mid, txB_mid]; omega, ⟨by rw [tS_mid, tS_mid, k2]; omega, by rw [uS_mid, uS_mid, k3, ea]; omega⟩, fun X hX => by unfold OC at hX ⊢; rw [oS_mid] at hX ⊢; omega, by rw [vS_mid, vS_mid]; omega⟩, by rw [hm, hm, k5]; exact Nat.le_refl _⟩
theorem gr_rnN {i : Nat} {ws : Req} {now : Int64} {rp : Bool} {A A' : List AK} {j : Nat} {as : List (List Int32)} (hA : IA A) (hW : ∀ w ∈ ws, WOK w) (hw : 1 ≤ ws.length) (h1024 : ws.length ≤ 1024) (hi : i < 106) (af : afX i (ws.length - 1) = true) (hN : (nm i).length ≤ (gw ws 0).length) (h : rnF i ws now rp A = some (A', j, as)) : GRX (cHv.getD i false) ws A A' := by
  have r1 := rw_ge ws
  obtain ⟨q1, q2, q3⟩ := af_lo hi (by omega) af
  have g1 := gw_sl ws 1
  have r0 := rw_0 (ws := ws) (k := 1) (Nat.le_refl _) hw
  have se : ∀ {go : Bool} {keep timed : Int32} {t : Int64} (n : Nat), 2 ≤ n → n < ws.length → (timed = 0 ∨ 12 ≤ (gw ws 0).length + 2 * ws.length) → seF go keep timed t now rp A (gw ws 1) (gw ws n) = some (A', j, as) → GRX true ws A A' := by
    intro go keep timed t n hn2' hn2 hT h
    have p := p_se hA (hW _ (gw_mem (show 1 < ws.length by omega))) h
    have := gw_sl2 (ws := ws) (j := 1) (k := n) (by omega) hn2
    refine p.grx hw (Or.inr (by omega)) (fun z => by cases z) ?_ (by omega)
    obtain ⟨-, ⟨p1, p2⟩, -⟩ := p
    by_cases c : timed = 0
    · rw [if_pos c] at p1 p2; exact Or.inl ⟨by omega, by omega⟩
    · rw [if_neg c] at p1 p2; exact Or.inr ⟨by omega, by omega, hT.resolve_left c⟩
  unfold rnF at h
  by_cases c2 : i = 2
  · subst c2
    rw [if_pos rfl] at h
    obtain ⟨q, hq, h⟩ := bind_some h
    have q0 : 2 ≤ ws.length - 1 := q1
    by_cases s : sfB 2 q.1.2.2.1 ws A = true
    · rw [if_pos s] at h
      refine se 2 (by omega) (by omega) ?_ h
      by_cases z : q.2.isSome = true
      · have h5 := osR_5 hq z
        have h3 : (nm 2).length = 3 := by decide +kernel
        exact Or.inr (by omega)
      · rw [if_neg z]; exact Or.inl rfl
    · rw [if_neg s] at h; cases h
  · rw [if_neg c2] at h
    by_cases s : sfB i 0 ws A = true
    · rw [if_pos s] at h
      by_cases c : i ∈ tiI
      · rw [if_pos c] at h
        have cs : i = 3 ∨ i = 4 ∨ i = 5 ∨ i = 6 ∨ i = 7 ∨ i = 30 ∨ i = 31 ∨ i = 32 ∨ i = 33 := by
          simpa [tiI] using c
        have ei : ∀ {t : Int64}, 1 < ws.length → 12 ≤ (gw ws 0).length + 2 * ws.length → eiF t now rp A (gw ws 1) = some (A', j, as) → GRX false ws A A' := fun hl h12 h => by
          obtain ⟨p, pm⟩ := p_ei hA (hW _ (gw_mem hl)) h
          exact p.grx hw (Or.inl (Nat.zero_le _)) (fun _ => ⟨rfl, pm⟩) (Or.inr ⟨p.2.1.1, p.2.1.2, h12⟩) (by omega)
        rcases cs with rfl | rfl | rfl | rfl | rfl | rfl | rfl | rfl | rfl
        · have h : (if kyI A (gw ws 1) = none then none else some (delA A (gw ws 1), 22, [gw ws 1])) = some (A', j, as) := h
          by_cases z : kyI A (gw ws 1) = none
          · rw [if_pos z] at h; cases h
          · rw [if_neg z] at h; cases h
            exact (GR_0N (g_delAN (w := gw ws 1) hA).2).x
        · have q0 : 2 ≤ ws.length - 1 := q1
          exact se 2 (by omega) (by omega) (Or.inl rfl) h
        · have q0 : 2 ≤ ws.length - 1 := q1
          exact se 2 (by omega) (by omega) (Or.inl rfl) h
        · have q0 : 3 ≤ ws.length - 1 := q1
          obtain ⟨t, ht, h⟩ := bind_some h
          have hl : (nm 6).length = 5 := by decide +kernel
          exact se 3 (by omega) (by omega) (Or.inr (by omega)) h
        · have q0 : 3 ≤ ws.length - 1 := q1
          obtain ⟨t, ht, h⟩ := bind_some h
          have hl : (nm 7).length = 6 := by decide +kernel
          exact se 3 (by omega) (by omega) (Or.inr (by omega)) h
        · have q0 : 2 ≤ ws.length - 1 := q1
          obtain ⟨t, ht, h⟩ := bind_some h
          have hl : 6 ≤ (nm 30).length := by decide +kernel
          exact ei (by omega) (by omega) h
        · have q0 : 2 ≤ ws.length - 1 := q1
          obtain ⟨t, ht, h⟩ := bind_some h
          have hl : 6 ≤ (nm 31).length := by decide +kernel
          exact ei (by omega) (by omega) h
        · have q0 : 2 ≤ ws.length - 1 := q1
          obtain ⟨t, ht, h⟩ := bind_some h
          have hl : 6 ≤ (nm 32).length := by decide +kernel
          exact ei (by omega) (by omega) h
        · have q0 : 2 ≤ ws.length - 1 := q1
          obtain ⟨t, ht, h⟩ := bind_some h
          have hl : 6 ≤ (nm 33).length := by decide +kernel
          exact ei (by omega) (by omega) h
      · rw [if_neg c] at h
        unfold nW at h
        cases e : coF i ws A with
        | none => rw [e] at h; cases h
        | some B =>
          rw [e] at h
          have h : some (B, i, ws.drop 1) = some (A', j, as) := h
          cases h
          have h70 : i = 70 → 5 ≤ (gw ws 0).length := fun z => by
            subst z
            have hl : (nm 70).length = 5 := by decide +kernel
            omega
          exact (gr_coN hA hW hw h1024 hi af s h70 e).2.x
    · rw [if_neg s] at h; cases h
end NX5
