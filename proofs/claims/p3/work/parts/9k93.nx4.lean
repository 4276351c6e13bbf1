/-! What each command leaves of texts, times, orders. -/
section NX4
/-- a word costs at least so much -/
theorem rw_ge2 : ∀ (ws : Req) (k : Nat), (gw ws k).length + 2 * (ws.length - 1) ≤ rw ws := by
  intro ws
  induction ws with
  | nil => intro k; show (([] : Req).getD k []).length + 2 * (0 - 1) ≤ 0; simp
  | cons w r ih =>
    intro k
    have h1 : w.length + 1 ≤ rw1 w ∧ 2 ≤ rw1 w := by unfold rw1; split <;> omega
    have h2 := (rw_ge r).1
    show (gw (w :: r) k).length + 2 * (r.length + 1 - 1) ≤ rw1 w + rw r
    cases k with
    | zero => show w.length + _ ≤ _; omega
    | succ k =>
      have h3 := ih k
      show (gw r k).length + _ ≤ _
      by_cases c : r.length = 0
      · have : r = [] := List.length_eq_zero_iff.mp c
        subst this; show 0 + 0 ≤ _; omega
      · omega
/-- what a command does to texts, times, orders -/
def GRN (hv : Bool) (ws : Req) (A A' : List AK) : Prop := (tS A' ≤ tS A ∧ uS A' ≤ uS A + sl ws) ∧ vS A' ≤ vS A + rw ws ∧ (hv = false → txB A' ≤ txB A ∧ (∀ X, OC X A → OC X A') ∧ memB A' + 4 * uS A' ≤ memB A + 4 * uS A + 8 * rw ws) ∧ (hv = true → (txB A' ≤ txB A + 16384 ∨ txB A' ≤ txB A + sl ws) ∧ ∀ X, OC X A → OC (X + ws.length) A')
theorem GR_hN {A A' : List AK} {ws : Req} {c x1 x2 x3 n : Nat} (k : MSN A A' c x1 x2 x3 n) (_h0 : 4 * c ≤ rw ws) (_h1 : x1 ≤ sl ws + 16384) (h2 : x2 ≤ ws.length) (_h3 : x3 ≤ 64 + 32 * ws.length + 2 * sl ws + 16400) (h4 : n ≤ sl ws := by omega) (h5 : n + 2 * x2 ≤ rw ws := by omega) : GRN true ws A A' := by
  have r1 := rw_ge ws
  exact ⟨⟨k.2.1.1, by have := k.2.1.2; omega⟩, by have := k.2.2.2.2; omega, fun z => (by cases z), fun _ => ⟨Or.inl (by have := k.1; omega), fun X hX => (k.2.2.1 X hX).up (by omega)⟩⟩
theorem GR_hM {A A' : List AK} {ws : Req} {c x1 x2 x3 n : Nat} (k : MSN A A' c x1 x2 x3 n) (h2 : x2 ≤ ws.length) (h4 : n ≤ sl ws := by omega) (h5 : n + 2 * x2 ≤ rw ws := by omega) : GRN true ws A A' := by
  have r1 := rw_ge ws
  exact ⟨⟨k.2.1.1, by have := k.2.1.2; omega⟩, by have := k.2.2.2.2; omega, fun z => (by cases z), fun _ => ⟨Or.inl (by have := k.1; omega), fun X hX => (k.2.2.1 X hX).up (by omega)⟩⟩
theorem GR_nN {A A' : List AK} {ws : Req} {c x1 x3 n : Nat} (k : MSN A A' c x1 0 x3 n) (_h0 : 4 * c ≤ rw ws) (_h1 : x1 ≤ sl ws) (h3 : x3 + 4 * n ≤ 8 * rw ws) (h4 : n ≤ sl ws := by omega) : GRN false ws A A' := by
  have r1 := rw_ge ws
  exact ⟨⟨k.2.1.1, by have := k.2.1.2; omega⟩, by have := k.2.2.2.2; omega, fun _ => ⟨k.1, fun X hX => (k.2.2.1 X hX).up (by omega), by have := k.2.1.2; have := k.2.2.2.1; omega⟩, fun z => (by cases z)⟩
theorem GR_0N {A A' : List AK} {ws : Req} {hv : Bool} (k : MSN A A' 0 0 0 0 0) : GRN hv ws A A' :=
  ⟨⟨k.2.1.1, by have := k.2.1.2; omega⟩, by have := k.2.2.2.2; omega, fun _ => ⟨k.1, fun X hX => (k.2.2.1 X hX).up (by omega), by have := k.2.1.2; have := k.2.2.2.1; omega⟩, fun _ => ⟨Or.inl (by have := k.1; omega), fun X hX => (k.2.2.1 X hX).up (by omega)⟩⟩
theorem MSP.gr {A A' : List AK} {ws : Req} {y g : Nat} (h : MSP A A' y 0 0 g) (hy : y ≤ 16384 ∨ y ≤ sl ws) (hg : g ≤ rw ws) : GRN true ws A A' :=
  ⟨⟨h.2.1.1, by have := h.2.1.2; omega⟩, by have := h.2.2.2; omega, fun z => (by cases z), fun _ => ⟨by have := h.1; omega, fun X hX => (h.2.2.1 X hX).up (by omega)⟩⟩
theorem g_putP {A : List AK} {w t : List Int32} (hA : IA A) (hs : soT A w 0 = true) (hw : WOK w) (ht : t.length ≤ 16384) : IA (putA A w t) ∧ MSP A (putA A w t) 16384 0 0 w.length := ⟨(g_put hA hs hw ht).1, p_put hs ht⟩
/-- the first word and another -/
theorem rw_0 {ws : Req} {k : Nat} (hk : 1 ≤ k) (hw : 1 ≤ ws.length) : (gw ws 0).length + 1 + ((gw ws k).length + 2 * (ws.length - 2)) ≤ rw ws := by
  cases ws with
  | nil => simp at hw
  | cons w r =>
    cases k with
    | zero => omega
    | succ k =>
      have h1 : w.length + 1 ≤ rw1 w := by unfold rw1; split <;> omega
      have h3 := rw_ge2 r k
      show w.length + 1 + ((gw r k).length + 2 * (r.length + 1 - 2)) ≤ rw1 w + rw r
      have e : r.length + 1 - 2 = r.length - 1 := by omega
      rw [e]; omega
theorem g_apP {A A' : List AK} {w v : List Int32} (hA : IA A) (hs : soT A w 0 = true) (hw : WOK w) (h : apF A w v = some A') : IA A' ∧ MSP A A' 16384 0 0 w.length := by
  unfold apF at h
  by_cases c : (txA A w).length + v.length ≤ 16384
  · rw [if_pos c] at h; cases h; exact g_putP hA hs hw (by rw [List.length_append]; exact c)
  · rw [if_neg c] at h; cases h
theorem g_srP {A A' : List AK} {w v : List Int32} {n : Nat} (hA : IA A) (hs : soT A w 0 = true) (hw : WOK w) (h : srF A w v n = some A') : IA A' ∧ MSP A A' 16384 0 0 w.length := by
  unfold srF at h
  by_cases c0 : v = []
  · rw [if_pos c0] at h; cases h
  · rw [if_neg c0] at h
    by_cases c : n + v.length ≤ 16384
    · rw [if_pos c] at h; cases h
      refine g_putP hA hs hw ?_
      have hx := hA.tx w
      unfold ovwT
      have := padT_mx (txA A w) (n + v.length)
      rw [List.length_append, List.length_append, List.length_take, List.length_drop]
      omega
    · rw [if_neg c] at h; cases h
theorem g_icP {A A' : List AK} {w : List Int32} {i : Nat} {n : Int64} (hA : IA A) (hs : soT A w 0 = true) (hw : WOK w) (h : icF A w i n = some A') : IA A' ∧ MSP A A' 16384 0 0 w.length := by
  unfold icF at h
  cases e : vlA A w with
  | none => rw [e] at h; cases h
  | some v =>
    rw [e] at h
    have h : (if beyI i v (byI i n) = 0 then some (putA A w (dec (sumI i v (byI i n)))) else none) = some A' := h
    by_cases c : beyI i v (byI i n) = 0
    · rw [if_pos c] at h; cases h
      have := dec_len (sumI i v (byI i n))
      exact g_putP hA hs hw (by omega)
    · rw [if_neg c] at h; cases h
theorem g_sbP {A A' : List AK} {w : List Int32} {n : Nat} {n2 : Int64} (hA : IA A) (hs : soT A w 0 = true) (hw : WOK w) (hn : n ≤ 131071) (h : sbF A w n n2 = some A') : IA A' ∧ MSP A A' 16384 0 0 w.length := by
  unfold sbF at h
  cases h
  refine g_putP hA hs hw ?_
  have hx := hA.tx w
  have := padT_mx (txA A w) (n / 8 + 1)
  rw [List.length_set]; omega
theorem gr_9N {ws : Req} {A A' : List AK} (hA : IA A) (hW : ∀ w ∈ ws, WOK w) (q0 : 2 ≤ ws.length - 1) (hp : ws.length % 2 = 1) (sf : sfB 9 0 ws A = true) (h : coF 9 ws A = some A') : IA A' ∧ GRN true ws A A' := by
  have r1 := rw_ge ws; have r2 := rw_ge2 ws 1; have r3 := rw_ge2 ws 2; have g1 := gw_sl ws 1; have g2 := gw_sl ws 2; have g3 := gw_sl ws 3; have g4 := gw_sl ws 4
  have g12 : (gw ws 1).length + sl (ws.drop 2) ≤ sl ws := sl_get (gw_at (ws := ws) (k := 1) (by omega))
  have h : smX 9 A (ws.drop 1) = some A' := h
  unfold smX at h
  by_cases c : 9 = 10 ∧ mxA A (ws.drop 1)
  · rw [if_pos c] at h; cases h
  · rw [if_neg c] at h
    have h : some (msA A (ws.drop 1)) = some A' := h
    cases h
    have k := g_ms (ws.drop 1).length (ws.drop 1) (Nat.le_refl _) hA (dr_mem hW)
    have hl : (ws.drop 1).length = ws.length - 1 := List.length_drop
    have hs := sl_drop ws 1
    exact ⟨k.1, (p_ms (ws.drop 1).length (ws.drop 1) (Nat.le_refl _) hA (dr_mem hW)).gr (Or.inr (by omega)) (by omega)⟩
theorem gr_10N {ws : Req} {A A' : List AK} (hA : IA A) (hW : ∀ w ∈ ws, WOK w) (q0 : 2 ≤ ws.length - 1) (hp : ws.length % 2 = 1) (sf : sfB 10 0 ws A = true) (h : coF 10 ws A = some A') : IA A' ∧ GRN true ws A A' := by
  have r1 := rw_ge ws; have r2 := rw_ge2 ws 1; have r3 := rw_ge2 ws 2; have g1 := gw_sl ws 1; have g2 := gw_sl ws 2; have g3 := gw_sl ws 3; have g4 := gw_sl ws 4
  have g12 : (gw ws 1).length + sl (ws.drop 2) ≤ sl ws := sl_get (gw_at (ws := ws) (k := 1) (by omega))
  have h : smX 10 A (ws.drop 1) = some A' := h
  unfold smX at h
  by_cases c : 10 = 10 ∧ mxA A (ws.drop 1)
  · rw [if_pos c] at h; cases h
  · rw [if_neg c] at h
    have h : some (msA A (ws.drop 1)) = some A' := h
    cases h
    have k := g_ms (ws.drop 1).length (ws.drop 1) (Nat.le_refl _) hA (dr_mem hW)
    have hl : (ws.drop 1).length = ws.length - 1 := List.length_drop
    have hs := sl_drop ws 1
    exact ⟨k.1, (p_ms (ws.drop 1).length (ws.drop 1) (Nat.le_refl _) hA (dr_mem hW)).gr (Or.inr (by omega)) (by omega)⟩
theorem gr_11N {ws : Req} {A A' : List AK} (hA : IA A) (hW : ∀ w ∈ ws, WOK w) (q0 : 2 ≤ ws.length - 1) (sf : sfB 11 0 ws A = true) (h : coF 11 ws A = some A') : IA A' ∧ GRN true ws A A' := by
  have r1 := rw_ge ws; have r2 := rw_ge2 ws 1; have r3 := rw_ge2 ws 2; have g1 := gw_sl ws 1; have g2 := gw_sl ws 2; have g3 := gw_sl ws 3; have g4 := gw_sl ws 4
  have g12 : (gw ws 1).length + sl (ws.drop 2) ≤ sl ws := sl_get (gw_at (ws := ws) (k := 1) (by omega))
  have k := g_apP hA (so1 (s := 0) (by omega) sf) (hW _ (gw_mem (ws := ws) (k := 1) (by omega))) h
  exact ⟨k.1, k.2.gr (Or.inl (Nat.le_refl _)) (by omega)⟩
theorem gr_14N {ws : Req} {A A' : List AK} (hA : IA A) (hW : ∀ w ∈ ws, WOK w) (q0 : 3 ≤ ws.length - 1) (sf : sfB 14 0 ws A = true) (h : coF 14 ws A = some A') : IA A' ∧ GRN true ws A A' := by
  have r1 := rw_ge ws; have r2 := rw_ge2 ws 1; have r3 := rw_ge2 ws 2; have g1 := gw_sl ws 1; have g2 := gw_sl ws 2; have g3 := gw_sl ws 3; have g4 := gw_sl ws 4
  have g12 : (gw ws 1).length + sl (ws.drop 2) ≤ sl ws := sl_get (gw_at (ws := ws) (k := 1) (by omega))
  obtain ⟨n, en, h⟩ := bind_some h
  have k := g_srP hA (so1 (s := 0) (by omega) sf) (hW _ (gw_mem (ws := ws) (k := 1) (by omega))) h
  exact ⟨k.1, k.2.gr (Or.inl (Nat.le_refl _)) (by omega)⟩
theorem gr_15N {ws : Req} {A A' : List AK} (hA : IA A) (hW : ∀ w ∈ ws, WOK w) (q0 : 1 ≤ ws.length - 1) (sf : sfB 15 0 ws A = true) (h : coF 15 ws A = some A') : IA A' ∧ GRN true ws A A' := by
  have r1 := rw_ge ws; have r2 := rw_ge2 ws 1; have r3 := rw_ge2 ws 2; have g1 := gw_sl ws 1; have g2 := gw_sl ws 2; have g3 := gw_sl ws 3; have g4 := gw_sl ws 4
  have g12 : (gw ws 1).length + sl (ws.drop 2) ≤ sl ws := sl_get (gw_at (ws := ws) (k := 1) (by omega))
  have k := g_icP hA (so1 (s := 0) (by omega) sf) (hW _ (gw_mem (ws := ws) (k := 1) (by omega))) h
  exact ⟨k.1, k.2.gr (Or.inl (Nat.le_refl _)) (by omega)⟩
theorem gr_16N {ws : Req} {A A' : List AK} (hA : IA A) (hW : ∀ w ∈ ws, WOK w) (q0 : 1 ≤ ws.length - 1) (sf : sfB 16 0 ws A = true) (h : coF 16 ws A = some A') : IA A' ∧ GRN true ws A A' := by
  have r1 := rw_ge ws; have r2 := rw_ge2 ws 1; have r3 := rw_ge2 ws 2; have g1 := gw_sl ws 1; have g2 := gw_sl ws 2; have g3 := gw_sl ws 3; have g4 := gw_sl ws 4
  have g12 : (gw ws 1).length + sl (ws.drop 2) ≤ sl ws := sl_get (gw_at (ws := ws) (k := 1) (by omega))
  have k := g_icP hA (so1 (s := 0) (by omega) sf) (hW _ (gw_mem (ws := ws) (k := 1) (by omega))) h
  exact ⟨k.1, k.2.gr (Or.inl (Nat.le_refl _)) (by omega)⟩
theorem gr_17N {ws : Req} {A A' : List AK} (hA : IA A) (hW : ∀ w ∈ ws, WOK w) (q0 : 2 ≤ ws.length - 1) (sf : sfB 17 0 ws A = true) (h : coF 17 ws A = some A') : IA A' ∧ GRN true ws A A' := by
  have r1 := rw_ge ws; have r2 := rw_ge2 ws 1; have r3 := rw_ge2 ws 2; have g1 := gw_sl ws 1; have g2 := gw_sl ws 2; have g3 := gw_sl ws 3; have g4 := gw_sl ws 4
  have g12 : (gw ws 1).length + sl (ws.drop 2) ≤ sl ws := sl_get (gw_at (ws := ws) (k := 1) (by omega))
  obtain ⟨n, en, h⟩ := bind_some h
  have k := g_icP hA (so1 (s := 0) (by omega) sf) (hW _ (gw_mem (ws := ws) (k := 1) (by omega))) h
  exact ⟨k.1, k.2.gr (Or.inl (Nat.le_refl _)) (by omega)⟩
theorem gr_18N {ws : Req} {A A' : List AK} (hA : IA A) (hW : ∀ w ∈ ws, WOK w) (q0 : 2 ≤ ws.length - 1) (sf : sfB 18 0 ws A = true) (h : coF 18 ws A = some A') : IA A' ∧ GRN true ws A A' := by
  have r1 := rw_ge ws; have r2 := rw_ge2 ws 1; have r3 := rw_ge2 ws 2; have g1 := gw_sl ws 1; have g2 := gw_sl ws 2; have g3 := gw_sl ws 3; have g4 := gw_sl ws 4
  have g12 : (gw ws 1).length + sl (ws.drop 2) ≤ sl ws := sl_get (gw_at (ws := ws) (k := 1) (by omega))
  obtain ⟨n, en, h⟩ := bind_some h
  have k := g_icP hA (so1 (s := 0) (by omega) sf) (hW _ (gw_mem (ws := ws) (k := 1) (by omega))) h
  exact ⟨k.1, k.2.gr (Or.inl (Nat.le_refl _)) (by omega)⟩
theorem gr_19N {ws : Req} {A A' : List AK} (hA : IA A) (hW : ∀ w ∈ ws, WOK w) (q0 : 3 ≤ ws.length - 1) (sf : sfB 19 0 ws A = true) (h : coF 19 ws A = some A') : IA A' ∧ GRN true ws A A' := by
  have r1 := rw_ge ws; have r2 := rw_ge2 ws 1; have r3 := rw_ge2 ws 2; have g1 := gw_sl ws 1; have g2 := gw_sl ws 2; have g3 := gw_sl ws 3; have g4 := gw_sl ws 4
  have g12 : (gw ws 1).length + sl (ws.drop 2) ≤ sl ws := sl_get (gw_at (ws := ws) (k := 1) (by omega))
  obtain ⟨n, en, h⟩ := bind_some h
  have k := g_sbP hA (so1 (s := 0) (by omega) sf) (hW _ (gw_mem (ws := ws) (k := 1) (by omega))) (sbR_ge en).2 h
  exact ⟨k.1, k.2.gr (Or.inl (Nat.le_refl _)) (by omega)⟩
theorem gr_22N {ws : Req} {A A' : List AK} (hA : IA A) (hW : ∀ w ∈ ws, WOK w) (q0 : 1 ≤ ws.length - 1) (sf : sfB 22 0 ws A = true) (h : coF 22 ws A = some A') : IA A' ∧ GRN false ws A A' := by
  have r1 := rw_ge ws; have r2 := rw_ge2 ws 1; have r3 := rw_ge2 ws 2; have g1 := gw_sl ws 1; have g2 := gw_sl ws 2; have g3 := gw_sl ws 3; have g4 := gw_sl ws 4
  have g12 : (gw ws 1).length + sl (ws.drop 2) ≤ sl ws := sl_get (gw_at (ws := ws) (k := 1) (by omega))
  have k := g_delN hA h
  exact ⟨k.1, GR_0N k.2⟩
theorem gr_25N {ws : Req} {A A' : List AK} (hA : IA A) (hW : ∀ w ∈ ws, WOK w) (q0 : 2 ≤ ws.length - 1) (sf : sfB 25 0 ws A = true) (h : coF 25 ws A = some A') : IA A' ∧ GRN false ws A A' := by
  have r1 := rw_ge ws; have r2 := rw_ge2 ws 1; have r3 := rw_ge2 ws 2; have g1 := gw_sl ws 1; have g2 := gw_sl ws 2; have g3 := gw_sl ws 3; have g4 := gw_sl ws 4
  have g12 : (gw ws 1).length + sl (ws.drop 2) ≤ sl ws := sl_get (gw_at (ws := ws) (k := 1) (by omega))
  have k := g_reN hA (hW _ (gw_mem (ws := ws) (k := 2) (by omega))) h
  exact ⟨k.1, GR_nN k.2 (by omega) (by omega) (by omega)⟩
theorem gr_26N {ws : Req} {A A' : List AK} (hA : IA A) (hW : ∀ w ∈ ws, WOK w) (q0 : 2 ≤ ws.length - 1) (sf : sfB 26 0 ws A = true) (h : coF 26 ws A = some A') : IA A' ∧ GRN false ws A A' := by
  have r1 := rw_ge ws; have r2 := rw_ge2 ws 1; have r3 := rw_ge2 ws 2; have g1 := gw_sl ws 1; have g2 := gw_sl ws 2; have g3 := gw_sl ws 3; have g4 := gw_sl ws 4
  have g12 : (gw ws 1).length + sl (ws.drop 2) ≤ sl ws := sl_get (gw_at (ws := ws) (k := 1) (by omega))
  have k := g_reN hA (hW _ (gw_mem (ws := ws) (k := 2) (by omega))) h
  exact ⟨k.1, GR_nN k.2 (by omega) (by omega) (by omega)⟩
theorem gr_29N {ws : Req} {A A' : List AK} (hA : IA A) (hW : ∀ w ∈ ws, WOK w) (q0 : 0 ≤ ws.length - 1) (sf : sfB 29 0 ws A = true) (h : coF 29 ws A = some A') : IA A' ∧ GRN false ws A A' := by
  have r1 := rw_ge ws; have r2 := rw_ge2 ws 1; have r3 := rw_ge2 ws 2; have g1 := gw_sl ws 1; have g2 := gw_sl ws 2; have g3 := gw_sl ws 3; have g4 := gw_sl ws 4
  have k := g_flN h
  exact ⟨k.1, GR_0N k.2⟩
theorem gr_34N {ws : Req} {A A' : List AK} (hA : IA A) (hW : ∀ w ∈ ws, WOK w) (q0 : 1 ≤ ws.length - 1) (sf : sfB 34 0 ws A = true) (h : coF 34 ws A = some A') : IA A' ∧ GRN false ws A A' := by
  have r1 := rw_ge ws; have r2 := rw_ge2 ws 1; have r3 := rw_ge2 ws 2; have g1 := gw_sl ws 1; have g2 := gw_sl ws 2; have g3 := gw_sl ws 3; have g4 := gw_sl ws 4
  have g12 : (gw ws 1).length + sl (ws.drop 2) ≤ sl ws := sl_get (gw_at (ws := ws) (k := 1) (by omega))
  have k := g_peN hA h
  exact ⟨k.1, GR_0N k.2⟩
theorem gr_37N {ws : Req} {A A' : List AK} (hA : IA A) (hW : ∀ w ∈ ws, WOK w) (q0 : 2 ≤ ws.length - 1) (sf : sfB 37 0 ws A = true) (h : coF 37 ws A = some A') : IA A' ∧ GRN true ws A A' := by
  have r1 := rw_ge ws; have r2 := rw_ge2 ws 1; have r3 := rw_ge2 ws 2; have g1 := gw_sl ws 1; have g2 := gw_sl ws 2; have g3 := gw_sl ws 3; have g4 := gw_sl ws 4
  have g12 : (gw ws 1).length + sl (ws.drop 2) ≤ sl ws := sl_get (gw_at (ws := ws) (k := 1) (by omega))
  have hl : (ws.drop 2).length = ws.length - 2 := List.length_drop
  have k := g_puN hA (so1 (s := 1) (by omega) sf) (hW _ (gw_mem (ws := ws) (k := 1) (by omega))) (dr_mem hW) (by rw [hl]; omega) h
  exact ⟨k.1, GR_hN k.2 (by omega) (by omega) (by rw [hl]; omega) (by rw [hl]; omega)⟩
theorem gr_38N {ws : Req} {A A' : List AK} (hA : IA A) (hW : ∀ w ∈ ws, WOK w) (q0 : 2 ≤ ws.length - 1) (sf : sfB 38 0 ws A = true) (h : coF 38 ws A = some A') : IA A' ∧ GRN true ws A A' := by
  have r1 := rw_ge ws; have r2 := rw_ge2 ws 1; have r3 := rw_ge2 ws 2; have g1 := gw_sl ws 1; have g2 := gw_sl ws 2; have g3 := gw_sl ws 3; have g4 := gw_sl ws 4
  have g12 : (gw ws 1).length + sl (ws.drop 2) ≤ sl ws := sl_get (gw_at (ws := ws) (k := 1) (by omega))
  have hl : (ws.drop 2).length = ws.length - 2 := List.length_drop
  have k := g_puN hA (so1 (s := 1) (by omega) sf) (hW _ (gw_mem (ws := ws) (k := 1) (by omega))) (dr_mem hW) (by rw [hl]; omega) h
  exact ⟨k.1, GR_hN k.2 (by omega) (by omega) (by rw [hl]; omega) (by rw [hl]; omega)⟩
theorem gr_39N {ws : Req} {A A' : List AK} (hA : IA A) (hW : ∀ w ∈ ws, WOK w) (q0 : 2 ≤ ws.length - 1) (sf : sfB 39 0 ws A = true) (h : coF 39 ws A = some A') : IA A' ∧ GRN true ws A A' := by
  have r1 := rw_ge ws; have r2 := rw_ge2 ws 1; have r3 := rw_ge2 ws 2; have g1 := gw_sl ws 1; have g2 := gw_sl ws 2; have g3 := gw_sl ws 3; have g4 := gw_sl ws 4
  have g12 : (gw ws 1).length + sl (ws.drop 2) ≤ sl ws := sl_get (gw_at (ws := ws) (k := 1) (by omega))
  have hl : (ws.drop 2).length = ws.length - 2 := List.length_drop
  have k := g_puN hA (so1 (s := 1) (by omega) sf) (hW _ (gw_mem (ws := ws) (k := 1) (by omega))) (dr_mem hW) (by rw [hl]; omega) h
  exact ⟨k.1, GR_hN k.2 (by omega) (by omega) (by rw [hl]; omega) (by rw [hl]; omega)⟩
theorem gr_40N {ws : Req} {A A' : List AK} (hA : IA A) (hW : ∀ w ∈ ws, WOK w) (q0 : 2 ≤ ws.length - 1) (sf : sfB 40 0 ws A = true) (h : coF 40 ws A = some A') : IA A' ∧ GRN true ws A A' := by
  have r1 := rw_ge ws; have r2 := rw_ge2 ws 1; have r3 := rw_ge2 ws 2; have g1 := gw_sl ws 1; have g2 := gw_sl ws 2; have g3 := gw_sl ws 3; have g4 := gw_sl ws 4
  have g12 : (gw ws 1).length + sl (ws.drop 2) ≤ sl ws := sl_get (gw_at (ws := ws) (k := 1) (by omega))
  have hl : (ws.drop 2).length = ws.length - 2 := List.length_drop
  have k := g_puN hA (so1 (s := 1) (by omega) sf) (hW _ (gw_mem (ws := ws) (k := 1) (by omega))) (dr_mem hW) (by rw [hl]; omega) h
  exact ⟨k.1, GR_hN k.2 (by omega) (by omega) (by rw [hl]; omega) (by rw [hl]; omega)⟩
theorem gr_41N {ws : Req} {A A' : List AK} (hA : IA A) (hW : ∀ w ∈ ws, WOK w) (q0 : 1 ≤ ws.length - 1) (sf : sfB 41 0 ws A = true) (h : coF 41 ws A = some A') : IA A' ∧ GRN false ws A A' := by
  have r1 := rw_ge ws; have r2 := rw_ge2 ws 1; have r3 := rw_ge2 ws 2; have g1 := gw_sl ws 1; have g2 := gw_sl ws 2; have g3 := gw_sl ws 3; have g4 := gw_sl ws 4
  have g12 : (gw ws 1).length + sl (ws.drop 2) ≤ sl ws := sl_get (gw_at (ws := ws) (k := 1) (by omega))
  obtain ⟨n, en, h⟩ := bind_some h
  have k := g_popN hA h
  exact ⟨k.1, GR_0N k.2⟩
theorem gr_42N {ws : Req} {A A' : List AK} (hA : IA A) (hW : ∀ w ∈ ws, WOK w) (q0 : 1 ≤ ws.length - 1) (sf : sfB 42 0 ws A = true) (h : coF 42 ws A = some A') : IA A' ∧ GRN false ws A A' := by
  have r1 := rw_ge ws; have r2 := rw_ge2 ws 1; have r3 := rw_ge2 ws 2; have g1 := gw_sl ws 1; have g2 := gw_sl ws 2; have g3 := gw_sl ws 3; have g4 := gw_sl ws 4
  have g12 : (gw ws 1).length + sl (ws.drop 2) ≤ sl ws := sl_get (gw_at (ws := ws) (k := 1) (by omega))
  obtain ⟨n, en, h⟩ := bind_some h
  have k := g_popN hA h
  exact ⟨k.1, GR_0N k.2⟩
theorem gr_46N {ws : Req} {A A' : List AK} (hA : IA A) (hW : ∀ w ∈ ws, WOK w) (q0 : 3 ≤ ws.length - 1) (sf : sfB 46 0 ws A = true) (h : coF 46 ws A = some A') : IA A' ∧ GRN true ws A A' := by
  have r1 := rw_ge ws; have r2 := rw_ge2 ws 1; have r3 := rw_ge2 ws 2; have g1 := gw_sl ws 1; have g2 := gw_sl ws 2; have g3 := gw_sl ws 3; have g4 := gw_sl ws 4
  have g12 : (gw ws 1).length + sl (ws.drop 2) ≤ sl ws := sl_get (gw_at (ws := ws) (k := 1) (by omega))
  obtain ⟨n, en, h⟩ := bind_some h
  have k := g_lpN hA (so1 (s := 1) (by omega) sf) (hW _ (gw_mem (ws := ws) (k := 3) (by omega))) h
  exact ⟨k.1, GR_hN k.2 (by omega) (by omega) (by omega) (by omega)⟩
theorem gr_47N {ws : Req} {A A' : List AK} (hA : IA A) (hW : ∀ w ∈ ws, WOK w) (q0 : 4 ≤ ws.length - 1) (sf : sfB 47 0 ws A = true) (h : coF 47 ws A = some A') : IA A' ∧ GRN true ws A A' := by
  have r1 := rw_ge ws; have r2 := rw_ge2 ws 1; have r3 := rw_ge2 ws 2; have g1 := gw_sl ws 1; have g2 := gw_sl ws 2; have g3 := gw_sl ws 3; have g4 := gw_sl ws 4
  have g12 : (gw ws 1).length + sl (ws.drop 2) ≤ sl ws := sl_get (gw_at (ws := ws) (k := 1) (by omega))
  have h : (if isF (gw ws 2) 72865299780165 = 1 ∨ isF (gw ws 2) 280352802130 = 1 then liF A (gw ws 1) (gw ws 2) (gw ws 3) (gw ws 4) else none) = some A' := h
  have c : isF (gw ws 2) 72865299780165 = 1 ∨ isF (gw ws 2) 280352802130 = 1 := Decidable.of_not_not (fun c => by rw [if_neg c] at h; cases h)
  rw [if_pos c] at h
  have k := g_liN hA (so1 (s := 1) (by omega) sf) (hW _ (gw_mem (ws := ws) (k := 4) (by omega))) h
  exact ⟨k.1, GR_hN k.2 (by omega) (by omega) (by omega) (by omega)⟩
theorem gr_48N {ws : Req} {A A' : List AK} (hA : IA A) (hW : ∀ w ∈ ws, WOK w) (q0 : 3 ≤ ws.length - 1) (sf : sfB 48 0 ws A = true) (h : coF 48 ws A = some A') : IA A' ∧ GRN false ws A A' := by
  have r1 := rw_ge ws; have r2 := rw_ge2 ws 1; have r3 := rw_ge2 ws 2; have g1 := gw_sl ws 1; have g2 := gw_sl ws 2; have g3 := gw_sl ws 3; have g4 := gw_sl ws 4
  have g12 : (gw ws 1).length + sl (ws.drop 2) ≤ sl ws := sl_get (gw_at (ws := ws) (k := 1) (by omega))
  obtain ⟨n, en, h⟩ := bind_some h
  have k := g_lremN hA h
  exact ⟨k.1, GR_0N k.2⟩
theorem gr_49N {ws : Req} {A A' : List AK} (hA : IA A) (hW : ∀ w ∈ ws, WOK w) (q0 : 3 ≤ ws.length - 1) (sf : sfB 49 0 ws A = true) (h : coF 49 ws A = some A') : IA A' ∧ GRN false ws A A' := by
  have r1 := rw_ge ws; have r2 := rw_ge2 ws 1; have r3 := rw_ge2 ws 2; have g1 := gw_sl ws 1; have g2 := gw_sl ws 2; have g3 := gw_sl ws 3; have g4 := gw_sl ws 4
  have g12 : (gw ws 1).length + sl (ws.drop 2) ≤ sl ws := sl_get (gw_at (ws := ws) (k := 1) (by omega))
  obtain ⟨n, en, h⟩ := bind_some h
  have k := g_trimN hA h
  exact ⟨k.1, GR_0N k.2⟩
theorem gr_50N {ws : Req} {A A' : List AK} (hA : IA A) (hW : ∀ w ∈ ws, WOK w) (q0 : 4 ≤ ws.length - 1) (sf : sfB 50 0 ws A = true) (h : coF 50 ws A = some A') : IA A' ∧ GRN true ws A A' := by
  have r1 := rw_ge ws; have r2 := rw_ge2 ws 1; have r3 := rw_ge2 ws 2; have g1 := gw_sl ws 1; have g2 := gw_sl ws 2; have g3 := gw_sl ws 3; have g4 := gw_sl ws 4
  have g12 : (gw ws 1).length + sl (ws.drop 2) ≤ sl ws := sl_get (gw_at (ws := ws) (k := 1) (by omega))
  have sf2 := Bool.and_eq_true _ _ |>.mp (show (soW A ws 1 1 && soW A ws 2 1) = true from sf)
  have h : (if (siD (gw ws 3) && siD (gw ws 4)) = true then mvF A (gw ws 1) (gw ws 2) (mvFl 50 (gw ws 3)) (mvTl 50 (gw ws 4)) else none) = some A' := h
  have c : (siD (gw ws 3) && siD (gw ws 4)) = true := Decidable.of_not_not (fun c => by rw [if_neg c] at h; cases h)
  rw [if_pos c] at h
  have k := g_mvN hA (so1 (by omega) sf2.1) (so2 (by omega) sf2.2) (hW _ (gw_mem (ws := ws) (k := 2) (by omega))) h
  exact ⟨k.1, GR_hN k.2 (by omega) (by omega) (by omega) (by omega)⟩
theorem gr_51N {ws : Req} {A A' : List AK} (hA : IA A) (hW : ∀ w ∈ ws, WOK w) (q0 : 2 ≤ ws.length - 1) (sf : sfB 51 0 ws A = true) (h : coF 51 ws A = some A') : IA A' ∧ GRN true ws A A' := by
  have r1 := rw_ge ws; have r2 := rw_ge2 ws 1; have r3 := rw_ge2 ws 2; have g1 := gw_sl ws 1; have g2 := gw_sl ws 2; have g3 := gw_sl ws 3; have g4 := gw_sl ws 4
  have g12 : (gw ws 1).length + sl (ws.drop 2) ≤ sl ws := sl_get (gw_at (ws := ws) (k := 1) (by omega))
  have sf2 := Bool.and_eq_true _ _ |>.mp (show (soW A ws 1 1 && soW A ws 2 1) = true from sf)
  have k := g_mvN hA (so1 (by omega) sf2.1) (so2 (by omega) sf2.2) (hW _ (gw_mem (ws := ws) (k := 2) (by omega))) h
  exact ⟨k.1, GR_hN k.2 (by omega) (by omega) (by omega) (by omega)⟩
theorem gr_52N {ws : Req} {A A' : List AK} (hA : IA A) (hW : ∀ w ∈ ws, WOK w) (q0 : 3 ≤ ws.length - 1) (sf : sfB 52 0 ws A = true) (h : coF 52 ws A = some A') : IA A' ∧ GRN true ws A A' := by
  have r1 := rw_ge ws; have r2 := rw_ge2 ws 1; have r3 := rw_ge2 ws 2; have g1 := gw_sl ws 1; have g2 := gw_sl ws 2; have g3 := gw_sl ws 3; have g4 := gw_sl ws 4
  have g12 : (gw ws 1).length + sl (ws.drop 2) ≤ sl ws := sl_get (gw_at (ws := ws) (k := 1) (by omega))
  have hl : (ws.drop 2).length = ws.length - 2 := List.length_drop
  have k := g_hsN (f := gw ws 2) hA (so1 (s := 2) (by omega) sf) (hW _ (gw_mem (ws := ws) (k := 1) (by omega))) (dr_mem hW) (by rw [hl]; omega) h
  exact ⟨k.1, GR_hN k.2 (by omega) (by omega) (by rw [hl]; omega) (by rw [hl]; omega)⟩
theorem gr_53N {ws : Req} {A A' : List AK} (hA : IA A) (hW : ∀ w ∈ ws, WOK w) (q0 : 3 ≤ ws.length - 1) (sf : sfB 53 0 ws A = true) (h : coF 53 ws A = some A') : IA A' ∧ GRN true ws A A' := by
  have r1 := rw_ge ws; have r2 := rw_ge2 ws 1; have r3 := rw_ge2 ws 2; have g1 := gw_sl ws 1; have g2 := gw_sl ws 2; have g3 := gw_sl ws 3; have g4 := gw_sl ws 4
  have g12 : (gw ws 1).length + sl (ws.drop 2) ≤ sl ws := sl_get (gw_at (ws := ws) (k := 1) (by omega))
  have hl : (ws.drop 2).length = ws.length - 2 := List.length_drop
  have k := g_hsN (f := gw ws 2) hA (so1 (s := 2) (by omega) sf) (hW _ (gw_mem (ws := ws) (k := 1) (by omega))) (dr_mem hW) (by rw [hl]; omega) h
  exact ⟨k.1, GR_hN k.2 (by omega) (by omega) (by rw [hl]; omega) (by rw [hl]; omega)⟩
theorem gr_56N {ws : Req} {A A' : List AK} (hA : IA A) (hW : ∀ w ∈ ws, WOK w) (q0 : 2 ≤ ws.length - 1) (sf : sfB 56 0 ws A = true) (h : coF 56 ws A = some A') : IA A' ∧ GRN false ws A A' := by
  have r1 := rw_ge ws; have r2 := rw_ge2 ws 1; have r3 := rw_ge2 ws 2; have g1 := gw_sl ws 1; have g2 := gw_sl ws 2; have g3 := gw_sl ws 3; have g4 := gw_sl ws 4
  have g12 : (gw ws 1).length + sl (ws.drop 2) ≤ sl ws := sl_get (gw_at (ws := ws) (k := 1) (by omega))
  have k := g_remN hA h
  exact ⟨k.1, GR_0N k.2⟩
theorem gr_63N {ws : Req} {A A' : List AK} (hA : IA A) (hW : ∀ w ∈ ws, WOK w) (q0 : 3 ≤ ws.length - 1) (sf : sfB 63 0 ws A = true) (h : coF 63 ws A = some A') : IA A' ∧ GRN true ws A A' := by
  have r1 := rw_ge ws; have r2 := rw_ge2 ws 1; have r3 := rw_ge2 ws 2; have g1 := gw_sl ws 1; have g2 := gw_sl ws 2; have g3 := gw_sl ws 3; have g4 := gw_sl ws 4
  have g12 : (gw ws 1).length + sl (ws.drop 2) ≤ sl ws := sl_get (gw_at (ws := ws) (k := 1) (by omega))
  obtain ⟨n, en, h⟩ := bind_some h
  have t2 := gw_sl2 (ws := ws) (j := 1) (k := 2) (by omega) (by omega)
  have k := g_hiN hA (so1 (s := 2) (by omega) sf) (hW _ (gw_mem (ws := ws) (k := 1) (by omega))) (hW _ (gw_mem (ws := ws) (k := 2) (by omega))) h
  exact ⟨k.1, GR_hN k.2 (by omega) (by omega) (by omega) (by omega)⟩
theorem gr_64N {ws : Req} {A A' : List AK} (hA : IA A) (hW : ∀ w ∈ ws, WOK w) (q0 : 2 ≤ ws.length - 1) (sf : sfB 64 0 ws A = true) (h : coF 64 ws A = some A') : IA A' ∧ GRN true ws A A' := by
  have r1 := rw_ge ws; have r2 := rw_ge2 ws 1; have r3 := rw_ge2 ws 2; have g1 := gw_sl ws 1; have g2 := gw_sl ws 2; have g3 := gw_sl ws 3; have g4 := gw_sl ws 4
  have g12 : (gw ws 1).length + sl (ws.drop 2) ≤ sl ws := sl_get (gw_at (ws := ws) (k := 1) (by omega))
  have hl : (ws.drop 2).length = ws.length - 2 := List.length_drop
  have k := g_saN hA (so1 (s := 3) (by omega) sf) (hW _ (gw_mem (ws := ws) (k := 1) (by omega))) (dr_mem hW) h
  exact ⟨k.1, GR_hN k.2 (by omega) (by omega) (by rw [hl]; omega) (by rw [hl]; omega)⟩
theorem gr_65N {ws : Req} {A A' : List AK} (hA : IA A) (hW : ∀ w ∈ ws, WOK w) (q0 : 2 ≤ ws.length - 1) (sf : sfB 65 0 ws A = true) (h : coF 65 ws A = some A') : IA A' ∧ GRN false ws A A' := by
  have r1 := rw_ge ws; have r2 := rw_ge2 ws 1; have r3 := rw_ge2 ws 2; have g1 := gw_sl ws 1; have g2 := gw_sl ws 2; have g3 := gw_sl ws 3; have g4 := gw_sl ws 4
  have g12 : (gw ws 1).length + sl (ws.drop 2) ≤ sl ws := sl_get (gw_at (ws := ws) (k := 1) (by omega))
  have k := g_remN hA h
  exact ⟨k.1, GR_0N k.2⟩
theorem gr_70N {ws : Req} {A A' : List AK} (hL : 5 ≤ (gw ws 0).length) (hA : IA A) (hW : ∀ w ∈ ws, WOK w) (q0 : 3 ≤ ws.length - 1) (sf : sfB 70 0 ws A = true) (h : coF 70 ws A = some A') : IA A' ∧ GRN false ws A A' := by
  have r1 := rw_ge ws; have r2 := rw_ge2 ws 1; have r3 := rw_0 (ws := ws) (k := 2) (by omega) (by omega); have g1 := gw_sl ws 1; have g2 := gw_sl ws 2; have g3 := gw_sl ws 3; have g4 := gw_sl ws 4
  have g12 : (gw ws 1).length + sl (ws.drop 2) ≤ sl ws := sl_get (gw_at (ws := ws) (k := 1) (by omega))
  have sf2 := Bool.and_eq_true _ _ |>.mp (show (soW A ws 1 3 && soW A ws 2 3) = true from sf)
  have t2 := gw_sl2 (ws := ws) (j := 2) (k := 3) (by omega) (by omega)
  have k := g_smN hA (so1 (by omega) sf2.1) (so2 (by omega) sf2.2) (hW _ (gw_mem (ws := ws) (k := 2) (by omega))) (hW _ (gw_mem (ws := ws) (k := 3) (by omega))) h
  exact ⟨k.1, GR_nN k.2 (by omega) (by omega) (by omega)⟩
theorem gr_74N {ws : Req} {A A' : List AK} (hA : IA A) (hW : ∀ w ∈ ws, WOK w) (q0 : 2 ≤ ws.length - 1) (sf : sfB 74 0 ws A = true) (h : coF 74 ws A = some A') : IA A' ∧ GRN true ws A A' := by
  have r1 := rw_ge ws; have r2 := rw_ge2 ws 1; have r3 := rw_ge2 ws 2; have g1 := gw_sl ws 1; have g2 := gw_sl ws 2; have g3 := gw_sl ws 3; have g4 := gw_sl ws 4
  have g12 : (gw ws 1).length + sl (ws.drop 2) ≤ sl ws := sl_get (gw_at (ws := ws) (k := 1) (by omega))
  have rk := rkM_ok hA 0 ws 2 (by omega) (show soL A (ws.drop 2) = true from sf)
  have k := g_rrN hA (hW _ (gw_mem (ws := ws) (k := 1) (by omega))) rk.1 rk.2.1 h
  exact ⟨k.1, GR_hM k.2 (by omega)⟩
theorem gr_75N {ws : Req} {A A' : List AK} (hA : IA A) (hW : ∀ w ∈ ws, WOK w) (q0 : 2 ≤ ws.length - 1) (sf : sfB 75 0 ws A = true) (h : coF 75 ws A = some A') : IA A' ∧ GRN true ws A A' := by
  have r1 := rw_ge ws; have r2 := rw_ge2 ws 1; have r3 := rw_ge2 ws 2; have g1 := gw_sl ws 1; have g2 := gw_sl ws 2; have g3 := gw_sl ws 3; have g4 := gw_sl ws 4
  have g12 : (gw ws 1).length + sl (ws.drop 2) ≤ sl ws := sl_get (gw_at (ws := ws) (k := 1) (by omega))
  have rk := rkM_ok hA 1 ws 2 (by omega) (show soL A (ws.drop 2) = true from sf)
  have k := g_rrN hA (hW _ (gw_mem (ws := ws) (k := 1) (by omega))) rk.1 rk.2.1 h
  exact ⟨k.1, GR_hM k.2 (by omega)⟩
theorem gr_76N {ws : Req} {A A' : List AK} (hA : IA A) (hW : ∀ w ∈ ws, WOK w) (q0 : 2 ≤ ws.length - 1) (sf : sfB 76 0 ws A = true) (h : coF 76 ws A = some A') : IA A' ∧ GRN true ws A A' := by
  have r1 := rw_ge ws; have r2 := rw_ge2 ws 1; have r3 := rw_ge2 ws 2; have g1 := gw_sl ws 1; have g2 := gw_sl ws 2; have g3 := gw_sl ws 3; have g4 := gw_sl ws 4
  have g12 : (gw ws 1).length + sl (ws.drop 2) ≤ sl ws := sl_get (gw_at (ws := ws) (k := 1) (by omega))
  have rk := rkM_ok hA 2 ws 2 (by omega) (show soL A (ws.drop 2) = true from sf)
  have k := g_rrN hA (hW _ (gw_mem (ws := ws) (k := 1) (by omega))) rk.1 rk.2.1 h
  exact ⟨k.1, GR_hM k.2 (by omega)⟩
theorem gr_77N {ws : Req} {A A' : List AK} (hA : IA A) (hW : ∀ w ∈ ws, WOK w) (q0 : 1 ≤ ws.length - 1) (sf : sfB 77 0 ws A = true) (h : coF 77 ws A = some A') : IA A' ∧ GRN false ws A A' := by
  have r1 := rw_ge ws; have r2 := rw_ge2 ws 1; have r3 := rw_ge2 ws 2; have g1 := gw_sl ws 1; have g2 := gw_sl ws 2; have g3 := gw_sl ws 3; have g4 := gw_sl ws 4
  have g12 : (gw ws 1).length + sl (ws.drop 2) ≤ sl ws := sl_get (gw_at (ws := ws) (k := 1) (by omega))
  have k := g_spopN hA h
  exact ⟨k.1, GR_0N k.2⟩
theorem gr_78N {ws : Req} {A A' : List AK} (hA : IA A) (hW : ∀ w ∈ ws, WOK w) (q0 : 3 ≤ ws.length - 1) (sf : sfB 78 0 ws A = true) (h : coF 78 ws A = some A') : IA A' ∧ GRN true ws A A' := by
  have r1 := rw_ge ws; have r2 := rw_ge2 ws 1; have r3 := rw_ge2 ws 2; have g1 := gw_sl ws 1; have g2 := gw_sl ws 2; have g3 := gw_sl ws 3; have g4 := gw_sl ws 4
  have g12 : (gw ws 1).length + sl (ws.drop 2) ≤ sl ws := sl_get (gw_at (ws := ws) (k := 1) (by omega))
  obtain ⟨n, en, h⟩ := bind_some h
  obtain ⟨m, em⟩ := zoR_sub en
  have hl : n.2.length ≤ ws.length - 2 := by rw [em, List.length_drop, List.length_drop]; omega
  have hsl : sl n.2 ≤ sl (ws.drop 2) := by rw [em]; exact sl_drop _ _
  have k := g_zdN hA (so1 (s := 4) (by omega) sf) (hW _ (gw_mem (ws := ws) (k := 1) (by omega))) (by rw [em]; exact dr_mem (dr_mem hW)) h
  exact ⟨k.1, GR_hN k.2 (by omega) (by omega) (by omega) (by omega)⟩
theorem gr_79N {ws : Req} {A A' : List AK} (hA : IA A) (hW : ∀ w ∈ ws, WOK w) (q0 : 2 ≤ ws.length - 1) (sf : sfB 79 0 ws A = true) (h : coF 79 ws A = some A') : IA A' ∧ GRN false ws A A' := by
  have r1 := rw_ge ws; have r2 := rw_ge2 ws 1; have r3 := rw_ge2 ws 2; have g1 := gw_sl ws 1; have g2 := gw_sl ws 2; have g3 := gw_sl ws 3; have g4 := gw_sl ws 4
  have g12 : (gw ws 1).length + sl (ws.drop 2) ≤ sl ws := sl_get (gw_at (ws := ws) (k := 1) (by omega))
  have k := g_remN hA h
  exact ⟨k.1, GR_0N k.2⟩
theorem gr_81N {ws : Req} {A A' : List AK} (hA : IA A) (hW : ∀ w ∈ ws, WOK w) (q0 : 3 ≤ ws.length - 1) (sf : sfB 81 0 ws A = true) (h : coF 81 ws A = some A') : IA A' ∧ GRN true ws A A' := by
  have r1 := rw_ge ws; have r2 := rw_ge2 ws 1; have r3 := rw_ge2 ws 2; have g1 := gw_sl ws 1; have g2 := gw_sl ws 2; have g3 := gw_sl ws 3; have g4 := gw_sl ws 4
  have g12 : (gw ws 1).length + sl (ws.drop 2) ≤ sl ws := sl_get (gw_at (ws := ws) (k := 1) (by omega))
  obtain ⟨n, en, h⟩ := bind_some h
  have t2 := gw_sl2 (ws := ws) (j := 1) (k := 3) (by omega) (by omega)
  have k := g_ziN hA (so1 (s := 4) (by omega) sf) (hW _ (gw_mem (ws := ws) (k := 1) (by omega))) (hW _ (gw_mem (ws := ws) (k := 3) (by omega))) h
  exact ⟨k.1, GR_hN k.2 (by omega) (by omega) (by omega) (by omega)⟩
theorem gr_90N {ws : Req} {A A' : List AK} (hA : IA A) (hW : ∀ w ∈ ws, WOK w) (q0 : 3 ≤ ws.length - 1) (sf : sfB 90 0 ws A = true) (h : coF 90 ws A = some A') : IA A' ∧ GRN false ws A A' := by
  have r1 := rw_ge ws; have r2 := rw_ge2 ws 1; have r3 := rw_ge2 ws 2; have g1 := gw_sl ws 1; have g2 := gw_sl ws 2; have g3 := gw_sl ws 3; have g4 := gw_sl ws 4
  have g12 : (gw ws 1).length + sl (ws.drop 2) ≤ sl ws := sl_get (gw_at (ws := ws) (k := 1) (by omega))
  obtain ⟨n, en, h⟩ := bind_some h
  have k := g_zcutN hA h
  exact ⟨k.1, GR_0N k.2⟩
theorem gr_91N {ws : Req} {A A' : List AK} (hA : IA A) (hW : ∀ w ∈ ws, WOK w) (q0 : 3 ≤ ws.length - 1) (sf : sfB 91 0 ws A = true) (h : coF 91 ws A = some A') : IA A' ∧ GRN false ws A A' := by
  have r1 := rw_ge ws; have r2 := rw_ge2 ws 1; have r3 := rw_ge2 ws 2; have g1 := gw_sl ws 1; have g2 := gw_sl ws 2; have g3 := gw_sl ws 3; have g4 := gw_sl ws 4
  have g12 : (gw ws 1).length + sl (ws.drop 2) ≤ sl ws := sl_get (gw_at (ws := ws) (k := 1) (by omega))
  obtain ⟨n, en, h⟩ := bind_some h
  have k := g_zcutN hA h
  exact ⟨k.1, GR_0N k.2⟩
theorem gr_92N {ws : Req} {A A' : List AK} (hA : IA A) (hW : ∀ w ∈ ws, WOK w) (q0 : 1 ≤ ws.length - 1) (sf : sfB 92 0 ws A = true) (h : coF 92 ws A = some A') : IA A' ∧ GRN false ws A A' := by
  have r1 := rw_ge ws; have r2 := rw_ge2 ws 1; have r3 := rw_ge2 ws 2; have g1 := gw_sl ws 1; have g2 := gw_sl ws 2; have g3 := gw_sl ws 3; have g4 := gw_sl ws 4
  have g12 : (gw ws 1).length + sl (ws.drop 2) ≤ sl ws := sl_get (gw_at (ws := ws) (k := 1) (by omega))
  obtain ⟨n, en, h⟩ := bind_some h
  have k := g_zpopN hA h
  exact ⟨k.1, GR_0N k.2⟩
theorem gr_93N {ws : Req} {A A' : List AK} (hA : IA A) (hW : ∀ w ∈ ws, WOK w) (q0 : 1 ≤ ws.length - 1) (sf : sfB 93 0 ws A = true) (h : coF 93 ws A = some A') : IA A' ∧ GRN false ws A A' := by
  have r1 := rw_ge ws; have r2 := rw_ge2 ws 1; have r3 := rw_ge2 ws 2; have g1 := gw_sl ws 1; have g2 := gw_sl ws 2; have g3 := gw_sl ws 3; have g4 := gw_sl ws 4
  have g12 : (gw ws 1).length + sl (ws.drop 2) ≤ sl ws := sl_get (gw_at (ws := ws) (k := 1) (by omega))
  obtain ⟨n, en, h⟩ := bind_some h
  have k := g_zpopN hA h
  exact ⟨k.1, GR_0N k.2⟩
theorem gr_coN {i : Nat} {ws : Req} {A A' : List AK} (hA : IA A) (hW : ∀ w ∈ ws, WOK w) (hw : 1 ≤ ws.length) (h1024 : ws.length ≤ 1024) (hi : i < 106) (af : afX i (ws.length - 1) = true) (sf : sfB i 0 ws A = true) (hL : i = 70 → 5 ≤ (gw ws 0).length) (h : coF i ws A = some A') : IA A' ∧ GRN (cHv.getD i false) ws A A' := by
  have hI := coF_I h
  obtain ⟨q1, q2, q3⟩ := af_lo hi (by omega) af
  by_cases c : i = 9
  · subst c
    exact gr_9N hA hW q1 (by have q4 : decide ((ws.length - 1) % 2 = 0) = true := q3; have := of_decide_eq_true q4; omega) sf h
  have hI := (List.mem_cons.mp hI).resolve_left c; clear c
  by_cases c : i = 10
  · subst c
    exact gr_10N hA hW q1 (by have q4 : decide ((ws.length - 1) % 2 = 0) = true := q3; have := of_decide_eq_true q4; omega) sf h
  have hI := (List.mem_cons.mp hI).resolve_left c; clear c
  by_cases c : i = 11
  · subst c
    exact gr_11N hA hW q1 sf h
  have hI := (List.mem_cons.mp hI).resolve_left c; clear c
  by_cases c : i = 14
  · subst c
    exact gr_14N hA hW q1 sf h
  have hI := (List.mem_cons.mp hI).resolve_left c; clear c
  by_cases c : i = 15
  · subst c
    exact gr_15N hA hW q1 sf h
  have hI := (List.mem_cons.mp hI).resolve_left c; clear c
  by_cases c : i = 16
  · subst c
    exact gr_16N hA hW q1 sf h
  have hI := (List.mem_cons.mp hI).resolve_left c; clear c
  by_cases c : i = 17
  · subst c
    exact gr_17N hA hW q1 sf h
  have hI := (List.mem_cons.mp hI).resolve_left c; clear c
  by_cases c : i = 18
  · subst c
    exact gr_18N hA hW q1 sf h
  have hI := (List.mem_cons.mp hI).resolve_left c; clear c
  by_cases c : i = 19
  · subst c
    exact gr_19N hA hW q1 sf h
  have hI := (List.mem_cons.mp hI).resolve_left c; clear c
  by_cases c : i = 22
  · subst c
    exact gr_22N hA hW q1 sf h
  have hI := (List.mem_cons.mp hI).resolve_left c; clear c
  by_cases c : i = 25
  · subst c
    exact gr_25N hA hW q1 sf h
  have hI := (List.mem_cons.mp hI).resolve_left c; clear c
  by_cases c : i = 26
  · subst c
    exact gr_26N hA hW q1 sf h
  have hI := (List.mem_cons.mp hI).resolve_left c; clear c
  by_cases c : i = 29
  · subst c
    exact gr_29N hA hW q1 sf h
  have hI := (List.mem_cons.mp hI).resolve_left c; clear c
  by_cases c : i = 34
  · subst c
    exact gr_34N hA hW q1 sf h
  have hI := (List.mem_cons.mp hI).resolve_left c; clear c
  by_cases c : i = 37
  · subst c
    exact gr_37N hA hW q1 sf h
  have hI := (List.mem_cons.mp hI).resolve_left c; clear c
  by_cases c : i = 38
  · subst c
    exact gr_38N hA hW q1 sf h
  have hI := (List.mem_cons.mp hI).resolve_left c; clear c
  by_cases c : i = 39
  · subst c
    exact gr_39N hA hW q1 sf h
  have hI := (List.mem_cons.mp hI).resolve_left c; clear c
  by_cases c : i = 40
  · subst c
    exact gr_40N hA hW q1 sf h
  have hI := (List.mem_cons.mp hI).resolve_left c; clear c
  by_cases c : i = 41
  · subst c
    exact gr_41N hA hW q1 sf h
  have hI := (List.mem_cons.mp hI).resolve_left c; clear c
  by_cases c : i = 42
  · subst c
    exact gr_42N hA hW q1 sf h
  have hI := (List.mem_cons.mp hI).resolve_left c; clear c
  by_cases c : i = 46
  · subst c
    exact gr_46N hA hW q1 sf h
  have hI := (List.mem_cons.mp hI).resolve_left c; clear c
  by_cases c : i = 47
  · subst c
    exact gr_47N hA hW q1 sf h
  have hI := (List.mem_cons.mp hI).resolve_left c; clear c
  by_cases c : i = 48
  · subst c
    exact gr_48N hA hW q1 sf h
  have hI := (List.mem_cons.mp hI).resolve_left c; clear c
  by_cases c : i = 49
  · subst c
    exact gr_49N hA hW q1 sf h
  have hI := (List.mem_cons.mp hI).resolve_left c; clear c
  by_cases c : i = 50
  · subst c
    exact gr_50N hA hW q1 sf h
  have hI := (List.mem_cons.mp hI).resolve_left c; clear c
  by_cases c : i = 51
  · subst c
    exact gr_51N hA hW q1 sf h
  have hI := (List.mem_cons.mp hI).resolve_left c; clear c
  by_cases c : i = 52
  · subst c
    exact gr_52N hA hW q1 sf h
  have hI := (List.mem_cons.mp hI).resolve_left c; clear c
  by_cases c : i = 53
  · subst c
    exact gr_53N hA hW q1 sf h
  have hI := (List.mem_cons.mp hI).resolve_left c; clear c
  by_cases c : i = 56
  · subst c
    exact gr_56N hA hW q1 sf h
  have hI := (List.mem_cons.mp hI).resolve_left c; clear c
  by_cases c : i = 63
  · subst c
    exact gr_63N hA hW q1 sf h
  have hI := (List.mem_cons.mp hI).resolve_left c; clear c
  by_cases c : i = 64
  · subst c
    exact gr_64N hA hW q1 sf h
  have hI := (List.mem_cons.mp hI).resolve_left c; clear c
  by_cases c : i = 65
  · subst c
    exact gr_65N hA hW q1 sf h
  have hI := (List.mem_cons.mp hI).resolve_left c; clear c
  by_cases c : i = 70
  · subst c
    exact gr_70N (hL rfl) hA hW q1 sf h
  have hI := (List.mem_cons.mp hI).resolve_left c; clear c
  by_cases c : i = 74
  · subst c
    exact gr_74N hA hW q1 sf h
  have hI := (List.mem_cons.mp hI).resolve_left c; clear c
  by_cases c : i = 75
  · subst c
    exact gr_75N hA hW q1 sf h
  have hI := (List.mem_cons.mp hI).resolve_left c; clear c
  by_cases c : i = 76
  · subst c
    exact gr_76N hA hW q1 sf h
  have hI := (List.mem_cons.mp hI).resolve_left c; clear c
  by_cases c : i = 77
  · subst c
    exact gr_77N hA hW q1 sf h
  have hI := (List.mem_cons.mp hI).resolve_left c; clear c
  by_cases c : i = 78
  · subst c
    exact gr_78N hA hW q1 sf h
  have hI := (List.mem_cons.mp hI).resolve_left c; clear c
  by_cases c : i = 79
  · subst c
    exact gr_79N hA hW q1 sf h
  have hI := (List.mem_cons.mp hI).resolve_left c; clear c
  by_cases c : i = 81
  · subst c
    exact gr_81N hA hW q1 sf h
  have hI := (List.mem_cons.mp hI).resolve_left c; clear c
  by_cases c : i = 90
  · subst c
    exact gr_90N hA hW q1 sf h
  have hI := (List.mem_cons.mp hI).resolve_left c; clear c
  by_cases c : i = 91
  · subst c
    exact gr_91N hA hW q1 sf h
  have hI := (List.mem_cons.mp hI).resolve_left c; clear c
  by_cases c : i = 92
  · subst c
    exact gr_92N hA hW q1 sf h
  have hI := (List.mem_cons.mp hI).resolve_left c; clear c
  by_cases c : i = 93
  · subst c
    exact gr_93N hA hW q1 sf h
  have hI := (List.mem_cons.mp hI).resolve_left c; clear c
  cases hI
end NX4
