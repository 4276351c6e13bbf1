/-! The live list: what it keeps through every command. -/
section LIVE
theorem osR_ok {ws : Req} {now : Int64} {q : F4 × Option Int64} (h : osR ws now = some q) : ∀ t, q.2 = some t → LAN ≤ t ∧ t ≤ LAT := by
  intro t ht
  unfold osR at h
  obtain ⟨p, hp, h⟩ := bind_some h
  cases e : p.2 with
  | none => rw [e] at h; have h : some (p.1, none) = some q := h; cases h; cases ht
  | some mt =>
    rw [e] at h
    have h : (match intF mt.2 with | none => none | some n => if n < 1 ∨ tmB n now mt.1 = false then none else some (p.1, some (tmV n now mt.1))) = some q := h
    cases f : intF mt.2 with
    | none => rw [f] at h; cases h
    | some n =>
      rw [f] at h
      have h : (if n < 1 ∨ tmB n now mt.1 = false then none else some (p.1, some (tmV n now mt.1))) = some q := h
      by_cases c : n < 1 ∨ tmB n now mt.1 = false
      · rw [if_pos c] at h; cases h
      · rw [if_neg c] at h; cases h
        have ht : some (tmV n now mt.1) = some t := ht
        cases ht
        have : tmB n now mt.1 = true := by cases z : tmB n now mt.1 with | true => rfl | false => exact absurd (Or.inr z) c
        have := of_decide_eq_true this
        exact ⟨this.2.2.2, this.2.2.1⟩
theorem g_se {A A' : List AK} {go : Bool} {keep timed : Int32} {t now : Int64} {rp : Bool} {w v : List Int32} {j : Nat} {as : List (List Int32)} (hA : IA A) (hw : WOK w) (hv : v.length ≤ 16384) (hn : 0 ≤ now) (hrp : rp = false) (ht : timed = 0 ∨ t ≤ LAT) (h : seF go keep timed t now rp A w v = some (A', j, as)) : IA A' ∧ MS A A' 1 (w.length + v.length) 0 (64 + w.length + v.length) w.length := by
  unfold seF at h
  by_cases c : go = false
  · rw [if_pos c] at h; cases h
  · rw [if_neg c] at h
    by_cases d : (¬ timed = 0) ∧ t ≤ now ∧ rp = false
    · rw [if_pos d] at h
      cases e : kyI A w with
      | none => rw [e] at h; cases h
      | some p =>
        rw [e] at h
        have h : some (rmA A p, 22, [w]) = some (A', j, as) := h
        cases h
        obtain ⟨k1, k2⟩ := rmU (p := p) hA
        exact ⟨k1, k2.up (Nat.zero_le _) (Nat.zero_le _) (Nat.zero_le _) (Nat.zero_le _) (Nat.zero_le _)⟩
    · rw [if_neg d] at h
      cases h
      refine g_st hA hw hv ?_
      by_cases z : timed = 0
      · exact Or.inl z
      · exact Or.inr ⟨ge1 hn (fun y => d ⟨z, y, hrp⟩), ht.resolve_left z⟩
theorem gr_rn {i : Nat} {ws : Req} {now : Int64} {rp : Bool} {A A' : List AK} {j : Nat} {as : List (List Int32)} (hA : IA A) (hW : ∀ w ∈ ws, WOK w) (hw : 1 ≤ ws.length) (h1024 : ws.length ≤ 1024) (hi : i < 106) (af : afX i (ws.length - 1) = true) (hn0 : 0 ≤ now) (hrp : rp = false) (h : rnF i ws now rp A = some (A', j, as)) : IA A' ∧ GR (cHv.getD i false) ws A A' := by
  have r1 := rw_ge ws
  obtain ⟨q1, q2, q3⟩ := af_lo hi (by omega) af
  have se : ∀ {go : Bool} {keep timed : Int32} {t : Int64} (n : Nat), 2 ≤ n → n < ws.length → (timed = 0 ∨ t ≤ LAT) → seF go keep timed t now rp A (gw ws 1) (gw ws n) = some (A', j, as) → IA A' ∧ GR true ws A A' := by
    intro go keep timed t n hn2' hn2 ht h
    obtain ⟨k1, k2⟩ := g_se hA (hW _ (gw_mem (show 1 < ws.length by omega))) (hW _ (gw_mem hn2)).1 hn0 hrp ht h
    have := gw_sl2 (ws := ws) (j := 1) (k := n) (by omega) hn2
    exact ⟨k1, GR_h k2 (by omega) (by omega) (by omega) (by omega)⟩
  unfold rnF at h
  by_cases c2 : i = 2
  · subst c2
    rw [if_pos rfl] at h
    obtain ⟨q, hq, h⟩ := bind_some h
    have q0 : 2 ≤ ws.length - 1 := q1
    by_cases s : sfB 2 q.1.2.2.1 ws A = true
    · rw [if_pos s] at h
      refine se 2 (by omega) (by omega) ?_ h
      cases e : q.2 with
      | none => exact Or.inl rfl
      | some t => exact Or.inr (osR_ok hq t e).2
    · rw [if_neg s] at h; cases h
  · rw [if_neg c2] at h
    by_cases s : sfB i 0 ws A = true
    · rw [if_pos s] at h
      by_cases c : i ∈ tiI
      · rw [if_pos c] at h
        have cs : i = 3 ∨ i = 4 ∨ i = 5 ∨ i = 6 ∨ i = 7 ∨ i = 30 ∨ i = 31 ∨ i = 32 ∨ i = 33 := by
          simpa [tiI] using c
        have ei : ∀ {t : Int64}, t ≤ LAT → eiF t now rp A (gw ws 1) = some (A', j, as) → IA A' ∧ GR false ws A A' := fun ht h => by
          obtain ⟨k1, k2⟩ := g_ei hA hn0 hrp ht h
          exact ⟨k1, GR_0 k2⟩
        rcases cs with rfl | rfl | rfl | rfl | rfl | rfl | rfl | rfl | rfl
        · have h : (if kyI A (gw ws 1) = none then none else some (delA A (gw ws 1), 22, [gw ws 1])) = some (A', j, as) := h
          by_cases z : kyI A (gw ws 1) = none
          · rw [if_pos z] at h; cases h
          · rw [if_neg z] at h; cases h
            obtain ⟨k1, k2⟩ := g_delA (w := gw ws 1) hA
            exact ⟨k1, GR_0 k2⟩
        · have q0 : 2 ≤ ws.length - 1 := q1
          exact se 2 (by omega) (by omega) (Or.inl rfl) h
        · have q0 : 2 ≤ ws.length - 1 := q1
          exact se 2 (by omega) (by omega) (Or.inl rfl) h
        · have q0 : 3 ≤ ws.length - 1 := q1
          obtain ⟨t, ht, h⟩ := bind_some h
          exact se 3 (by omega) (by omega) (Or.inr (tiR_ok ht).2) h
        · have q0 : 3 ≤ ws.length - 1 := q1
          obtain ⟨t, ht, h⟩ := bind_some h
          exact se 3 (by omega) (by omega) (Or.inr (tiR_ok ht).2) h
        · obtain ⟨t, ht, h⟩ := bind_some h
          exact ei (tiR_ok ht).2 h
        · obtain ⟨t, ht, h⟩ := bind_some h
          exact ei (tiR_ok ht).2 h
        · obtain ⟨t, ht, h⟩ := bind_some h
          exact ei (tiR_ok ht).2 h
        · obtain ⟨t, ht, h⟩ := bind_some h
          exact ei (tiR_ok ht).2 h
      · rw [if_neg c] at h
        unfold nW at h
        cases e : coF i ws A with
        | none => rw [e] at h; cases h
        | some B =>
          rw [e] at h
          have h : some (B, i, ws.drop 1) = some (A', j, as) := h
          cases h
          exact gr_co hA hW hw h1024 hi af s e
    · rw [if_neg s] at h; cases h
/-- the live list, with so many fed bytes not used yet -/
def LI (A : List AK) (p : Nat) : Prop := IA A ∧ eN A ≤ 8600 ∧ (4 * A.length + p ≤ 10240 ∧ nB A + p ≤ 10240) ∧ tT A + p ≤ 130240 ∧ memB A + 9 * p ≤ 222560 ∧ OZ (97000 - p) A
theorem LI.less {A : List AK} {p q : Nat} (h : LI A p) (hq : q ≤ p) : LI A q := ⟨h.1, h.2.1, by have := h.2.2.1; omega, by have := h.2.2.2.1; omega, by have := h.2.2.2.2.1; omega, h.2.2.2.2.2.up (by omega)⟩
theorem LI_nil (p : Nat) (h : p ≤ 10240) : LI [] p := ⟨IA_nil, Nat.zero_le _, ⟨by show 4 * 0 + p ≤ _; omega, by show 0 + p ≤ _; omega⟩, by show 0 + p ≤ _; omega, by show 0 + 9 * p ≤ _; omega, fun a ha => (by cases ha)⟩
theorem OZ_mem (A : List AK) : OZ (memB A) A := by
  intro a ha _
  obtain ⟨P, Q, e⟩ := List.append_of_mem ha
  rw [e, memB_app]
  show _ ≤ memB P + (64 + a.1.length + a.2.2.2.2.1.length + memW a.2.1 * a.2.2.2.2.2.length + eT a.2.2.2.2.2 + memB Q)
  omega
theorem LI_step {A A' : List AK} {p : Nat} {ws : Req} {hv : Bool} (h : LI A p) (hr : rw ws ≤ p) (h1024 : ws.length ≤ 1024) (hA' : IA A') (g : GR hv ws A A') (hh : hv = true → memB A < 60000) : LI A' (p - rw ws) := by
  obtain ⟨h1, h2, h3, h4, h5, h6⟩ := h
  obtain ⟨g1, g2, g3⟩ := g
  have m := memB_ge A
  have r1 := rw_ge ws
  cases hv with
  | false =>
    obtain ⟨⟨k1, k2, k3⟩, k4⟩ := g2 rfl
    exact ⟨hA', by omega, by omega, by omega, by omega, (k4 _ h6).up (by omega)⟩
  | true =>
    obtain ⟨⟨k1, k2⟩, k4⟩ := g3 rfl
    have hm := hh rfl
    refine ⟨hA', by omega, by omega, by omega, by omega, (k4 _ (OZ_mem A)).up (by omega)⟩
theorem soL_of {i : Nat} {ws : Req} {A : List AK} (h : sfB i 0 ws A = true) : (71 ≤ i ∧ i ≤ 73 → soL A (ws.drop 1) = true) ∧ (74 ≤ i ∧ i ≤ 76 → soL A (ws.drop 2) = true) := by
  refine ⟨fun c => ?_, fun c => ?_⟩
  · have : i = 71 ∨ i = 72 ∨ i = 73 := by omega
    rcases this with rfl | rfl | rfl <;> exact h
  · have : i = 74 ∨ i = 75 ∨ i = 76 := by omega
    rcases this with rfl | rfl | rfl <;> exact h
/-- a live command has the room that it wants -/
theorem BD_live {σ : mjS} {i : Nat} {ws : Req} {ks : List KR} {l : List Int32} {p : Nat} (hT : TB σ) (hi1 : 1 ≤ i) (hi : i ≤ 105) (h : LI (strip ks) p) (hr : rw ws ≤ p) (h1024 : ws.length ≤ 1024) (hW : ∀ w ∈ ws, WOK w) (af : afX i (ws.length - 1) = true) (hl : l.length + 700 + sz ws ≤ 420000) (hrp : σ.1 f_replays = 0) : BD σ i ws ks l := by
  obtain ⟨h1, h2, h3, h4, h5, _⟩ := h
  have r1 := rw_ge ws
  have g1 := gw_sl ws 1
  have hk : ks.length = (strip ks).length := (strip_len ks).symm
  obtain ⟨q1, q2, q3⟩ := af_lo (by omega) (by omega) af
  refine ⟨by omega, by omega, by omega, hl, by rw [memA_B]; omega, h1, hW, fun c s => ?_, fun c nr s => ?_⟩
  · have hlo : 1 ≤ ws.length - 1 := by
      have : i = 71 ∨ i = 72 ∨ i = 73 := by omega
      rcases this with rfl | rfl | rfl <;> exact q1
    have rk := rkM_ok h1 (i - 71) ws 1 (by omega) ((soL_of s).1 c)
    exact ⟨by omega, by omega⟩
  · have hlo : 2 ≤ ws.length - 1 := by
      have : i = 74 ∨ i = 75 ∨ i = 76 := by omega
      rcases this with rfl | rfl | rfl <;> exact q1
    have rk := rkM_ok h1 (i - 74) ws 2 (by omega) ((soL_of s).2 c)
    have hv : ¬ σ.2.2.1 r_heavy i = 0 := by
      rw [(hT i hi1 hi).2.2.2.2]
      have : i = 74 ∨ i = 75 ∨ i = 76 := by omega
      rcases this with rfl | rfl | rfl <;> rfl
    have hm : memA ks < 60000 := Nat.lt_of_not_le (fun z => nr ⟨hv, hrp, z⟩)
    rw [memA_B] at hm
    have m := memB_ge (strip ks)
    exact ⟨by omega, by omega⟩
/-- the live list behind a live command -/
theorem LI_run {σ : mjS} {i : Nat} {ws : Req} {ks : List KR} {p : Nat} (hT : TB σ) (hi1 : 1 ≤ i) (hi : i ≤ 105) (h : LI (strip ks) p) (hr : rw ws ≤ p) (hw : 1 ≤ ws.length) (h1024 : ws.length ≤ 1024) (hW : ∀ w ∈ ws, WOK w) (af : afX i (ws.length - 1) = true) (hrp : σ.1 f_replays = 0) (hnow : 0 ≤ σ.2.1 f_now0) : LI (efA (strip ks) (rnE σ ks i ws)) (p - rw ws) := by
  unfold rnE
  by_cases c : refP σ ks i
  · rw [if_pos c]; exact h.less (by omega)
  · rw [if_neg c]
    cases e : rnF i ws (σ.2.1 f_now0) (decide (¬ σ.1 f_replays = 0)) (strip ks) with
    | none => exact h.less (by omega)
    | some q =>
      obtain ⟨A', j, as⟩ := q
      obtain ⟨k1, k2⟩ := gr_rn h.1 hW hw h1024 (by omega) af hnow (decide_eq_false (fun z => z hrp)) e
      refine LI_step h hr h1024 k1 k2 (fun hv => ?_)
      have hv2 : ¬ σ.2.2.1 r_heavy i = 0 := (hT i hi1 hi).2.2.2.2.mpr hv
      rw [← memA_B]
      exact Nat.lt_of_not_le (fun z => c ⟨hv2, hrp, z⟩)
end LIVE
