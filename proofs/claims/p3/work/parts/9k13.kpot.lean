/-! Room that is paid ahead, row by row; what a row of bytes holds. -/
def payB : List Nat := [9, 17, 26, 35, 44]
def kcapB (b : Nat) : Nat × Nat := if b ∈ [1, 13, 22, 31, 40] then (10400, 20800) else if b ∈ [5, 7] then (210000, 420000) else if b ∈ [15, 24, 33, 42] then (65536, 65536) else (0, 0)
def kcapR (p : Nat × Nat) : Nat × Nat := if p = (48, 0) then (235000, 470000) else if p = (48, 1) ∨ p = (48, 2) then (36000, 72000) else if p = (71, 4) then (8700, 17400) else (2600, 5200)
def kphi (M X n : Nat) : Nat := if M ≤ n then 0 else 2 * M + X - 2 * n
def phiB (b n c : Nat) : Nat := if b ∈ payB then 4 * c - 2 * n else kphi (kcapB b).1 (kcapB b).2 n
def kl (σ : kS) (p : Nat × Nat) : Nat := (σ.2.2.2.1 ((σ.2.2.1 p.1 p.2).getD 0)).2
def ksz (σ : kS) (b : Nat) : Nat := (σ.1 b 2).toNatClampNeg
def kmade (σ : kS) : Nat := (σ.1 59 6).toNatClampNeg
def potB (σ : kS) (cs : Nat → Nat) : Nat := (OWb.map (fun b => phiB b (kl σ (b, 1)) (cs b))).sum
def potR (σ : kS) : Nat := (OWr.map (fun p => kphi (kcapR p).1 (kcapR p).2 (kl σ p))).sum
def potT (σ : kS) : Nat := (4 * 131072 - 2 * kl σ (59, 7) - 2 * kl σ (59, 8)) + (4 * 65536 - 2 * kl σ (59, 10) - 2 * kl σ (59, 11)) + 9 * (2600 - kmade σ)
def csU (σ : kS) (b c : Nat) : Nat → Nat := fun b' => if b' = b then c else ksz σ b'
/-- how often a row may still be made anew: each time it is twice as long, or as long as it may be -/
def glg (n : Nat) : Nat := 20 - Nat.log2 n
theorem glg_lt {n N : Nat} (h : 2 * n ≤ N ∨ (n < N ∧ N = 65536)) (h64 : 64 ≤ N) (hN : N ≤ 600000) : glg N + 1 ≤ glg n := by
  have h0 : ¬ N = 0 := by omega
  have a1 : Nat.log2 N < 20 := (Nat.log2_lt h0).mpr (by omega)
  have a2 : Nat.log2 n + 1 ≤ Nat.log2 N := by
    by_cases z : n = 0
    · rw [z]
      exact (Nat.le_log2 h0).mpr (show 2 ^ (Nat.log2 0 + 1) ≤ N from Nat.le_trans (by decide) h64)
    · rcases h with h | ⟨h1, h2⟩
      · refine (Nat.le_log2 h0).mpr ?_
        have := (Nat.le_log2 z (k := Nat.log2 n)).mp (Nat.le_refl _)
        rw [Nat.pow_succ]; omega
      · have b1 : Nat.log2 n < 16 := (Nat.log2_lt z).mpr (by omega)
        have b2 : 16 ≤ Nat.log2 N := (Nat.le_log2 h0).mpr (by rw [h2]; decide)
        omega
  unfold glg; omega
theorem glg_1 {n : Nat} (h : n ≤ 600000) : 1 ≤ glg n := by
  unfold glg
  by_cases z : n = 0
  · rw [z]; decide
  · have a1 : Nat.log2 n < 20 := (Nat.log2_lt z).mpr (by omega)
    omega
theorem glg_20 (n : Nat) : glg n ≤ 20 := by unfold glg; omega
def gcs (σ : kS) : Nat := (OWs.map (fun p => glg (kl σ p))).sum
/-- the room is paid; with so many bytes in one of the rows -/
def PO (σ : kS) (b c : Nat) : Prop := potB σ (csU σ b c) + potR σ + potT σ ≤ σ.2.2.2.2.2.2 ∧ gcs σ + (2600 - kmade σ) ≤ σ.2.2.2.2.2.1
def POT (σ : kS) : Prop := potB σ (ksz σ) + potR σ + potT σ ≤ σ.2.2.2.2.2.2 ∧ gcs σ + (2600 - kmade σ) ≤ σ.2.2.2.2.2.1
theorem csU_self {σ : kS} {b : Nat} : csU σ b (ksz σ b) = ksz σ := by
  funext b'; unfold csU
  by_cases c : b' = b
  · rw [if_pos c, c]
  · rw [if_neg c]
theorem POT_PO {σ : kS} {b : Nat} : POT σ ↔ PO σ b (ksz σ b) := by unfold POT PO; rw [csU_self]
theorem sum_le {α : Type} {f g : α → Nat} : ∀ {L : List α}, (∀ x ∈ L, f x ≤ g x) → (L.map f).sum ≤ (L.map g).sum := by
  intro L
  induction L with
  | nil => intro _; exact Nat.le_refl _
  | cons a L ih =>
    intro h
    rw [List.map_cons, List.map_cons, List.sum_cons, List.sum_cons]
    exact Nat.add_le_add (h a List.mem_cons_self) (ih (fun x hx => h x (List.mem_cons_of_mem _ hx)))
theorem sum_eq {α : Type} {f g : α → Nat} {L : List α} (h : ∀ x ∈ L, f x = g x) : (L.map f).sum = (L.map g).sum := by
  rw [List.map_congr_left h]
theorem sum_upd {α : Type} {f g : α → Nat} {p : α} : ∀ {L : List α}, L.Nodup → p ∈ L → (∀ x ∈ L, ¬ x = p → g x = f x) → (L.map g).sum + f p = (L.map f).sum + g p := by
  intro L
  induction L with
  | nil => intro _ h; cases h
  | cons a L ih =>
    intro hn hp h
    rw [List.nodup_cons] at hn
    rw [List.map_cons, List.map_cons, List.sum_cons, List.sum_cons]
    rcases List.mem_cons.mp hp with e | hp
    · subst e
      have e2 : (L.map g).sum = (L.map f).sum := sum_eq fun x hx => h x (List.mem_cons_of_mem _ hx) (fun c => hn.1 (c ▸ hx))
      omega
    · have e1 := ih hn.2 hp (fun x hx => h x (List.mem_cons_of_mem _ hx))
      have e2 := h a List.mem_cons_self (fun c => hn.1 (c ▸ hp))
      omega
theorem mem_sum {α : Type} {f : α → Nat} {p : α} : ∀ {L : List α}, p ∈ L → f p ≤ (L.map f).sum := by
  intro L
  induction L with
  | nil => intro h; cases h
  | cons a L ih =>
    intro h
    rw [List.map_cons, List.sum_cons]
    rcases List.mem_cons.mp h with e | h
    · rw [e]; omega
    · have := ih h; omega
theorem phiB_mono {b n c c' : Nat} (h : c ≤ c') : phiB b n c ≤ phiB b n c' := by
  unfold phiB
  by_cases q : b ∈ payB
  · rw [if_pos q, if_pos q]; omega
  · rw [if_neg q, if_neg q]; exact Nat.le_refl _
/-- nothing of it has changed -/
theorem PO.same {σ u : kS} {b c c' : Nat} (h : PO σ b c) (hc : c' ≤ c) (e1 : ∀ p ∈ OWs, kl u p = kl σ p) (e2 : ∀ b' ∈ OWb, ¬ b' = b → u.1 b' 2 = σ.1 b' 2) (e3 : u.1 59 6 = σ.1 59 6) (e4 : u.2.2.2.2.2.1 = σ.2.2.2.2.2.1 ∧ u.2.2.2.2.2.2 = σ.2.2.2.2.2.2) : PO u b c' := by
  have hO : ∀ x ∈ OWb, (x, 1) ∈ OWs := fun x hx => List.mem_append_left _ (List.mem_map.mpr ⟨x, hx, rfl⟩)
  have hR : ∀ x ∈ OWr, x ∈ OWs := fun x hx => List.mem_append_right _ (List.mem_append_left _ hx)
  have a1 : potB u (csU u b c') ≤ potB σ (csU σ b c) := by
    refine sum_le fun x hx => ?_
    rw [e1 _ (hO x hx)]
    unfold csU
    by_cases q : x = b
    · rw [if_pos q, if_pos q]; exact phiB_mono hc
    · rw [if_neg q, if_neg q]; unfold ksz; rw [e2 x hx q]; exact Nat.le_refl _
  have a2 : potR u = potR σ := sum_eq fun x hx => by rw [e1 _ (hR x hx)]
  have a3 : kmade u = kmade σ := by unfold kmade; rw [e3]
  have a4 : potT u = potT σ := by
    unfold potT
    rw [e1 (59, 7) (by decide), e1 (59, 8) (by decide), e1 (59, 10) (by decide), e1 (59, 11) (by decide), a3]
  have a5 : gcs u = gcs σ := sum_eq fun x hx => by rw [e1 x hx]
  obtain ⟨h1, h2⟩ := h
  refine ⟨?_, ?_⟩
  · rw [a2, a4, e4.2]; omega
  · rw [a3, e4.1, a5]; exact h2
theorem OWb_nd : OWb.Nodup := by decide
theorem OWs_nd : OWs.Nodup := by decide +kernel
/-- one row is longer -/
theorem gcs_up {σ u : kS} {p : Nat × Nat} (hp : p ∈ OWs) (e1 : ∀ q ∈ OWs, ¬ q = p → kl u q = kl σ q) (h : glg (kl u p) + 1 ≤ glg (kl σ p)) : gcs u + 1 ≤ gcs σ := by
  have a := sum_upd (f := fun q => glg (kl σ q)) (g := fun q => glg (kl u q)) (p := p) OWs_nd hp (fun x hx q => by
    show glg (kl u x) = glg (kl σ x); rw [e1 x hx q])
  have a : gcs u + glg (kl σ p) = gcs σ + glg (kl u p) := a
  omega
theorem gcs_1 {σ : kS} {p : Nat × Nat} (hp : p ∈ OWs) (h : kl σ p ≤ 600000) : 1 ≤ gcs σ := Nat.le_trans (glg_1 h) (mem_sum (f := fun q => glg (kl σ q)) hp)
/-- a row of bytes has grown -/
theorem PO.grow {σ u : kS} {b c N : Nat} (hb : b ∈ OWb) (h : PO σ b c) (hn : kl σ (b, 1) < c) (hN : c ≤ N ∧ 64 ≤ N ∧ ((2 * kl σ (b, 1) ≤ N ∧ N ≤ 2 * c) ∨ (N = 65536 ∧ b ∈ [15, 24, 33, 42]))) (hcap : b ∈ payB ∨ c ≤ (kcapB b).1 ∧ ((kcapB b).2 = 2 * (kcapB b).1 ∨ b ∈ [15, 24, 33, 42] ∧ N ≤ 65536)) (h600 : N ≤ 600000)
    (e0 : kl u (b, 1) = N) (e1 : ∀ p ∈ OWs, ¬ p = (b, 1) → kl u p = kl σ p) (e2 : ∀ b' ∈ OWb, ¬ b' = b → u.1 b' 2 = σ.1 b' 2) (e3 : u.1 59 6 = σ.1 59 6) (e4 : u.2.2.2.2.2.1 + 1 = σ.2.2.2.2.2.1 ∧ u.2.2.2.2.2.2 + N = σ.2.2.2.2.2.2) : PO u b c := by
  have hO : ∀ x ∈ OWb, (x, 1) ∈ OWs := fun x hx => List.mem_append_left _ (List.mem_map.mpr ⟨x, hx, rfl⟩)
  have hR : ∀ x ∈ OWr, x ∈ OWs := fun x hx => List.mem_append_right _ (List.mem_append_left _ hx)
  have hRb : ∀ x ∈ OWr, ¬ x.1 ∈ OWb := by decide
  have a1 := sum_upd (f := fun x => phiB x (kl σ (x, 1)) (csU σ b c x)) (g := fun x => phiB x (kl u (x, 1)) (csU u b c x)) (p := b) OWb_nd hb (fun x hx q => by
    have q2 : ¬ (x, 1) = (b, 1) := fun z => q (congrArg Prod.fst z)
    show phiB x (kl u (x, 1)) (csU u b c x) = phiB x (kl σ (x, 1)) (csU σ b c x)
    rw [e1 _ (hO x hx) q2]
    unfold csU
    rw [if_neg q, if_neg q]; unfold ksz; rw [e2 x hx q])
  have a2 : potR u = potR σ := sum_eq fun x hx => by rw [e1 _ (hR x hx) (fun z => hRb x hx (by rw [z]; exact hb))]
  have a3 : kmade u = kmade σ := by unfold kmade; rw [e3]
  have hb59 : ∀ x, ¬ ((59, x) : Nat × Nat) = (b, 1) := fun x z => by
    have z1 : 59 = b := congrArg Prod.fst z
    rw [← z1] at hb; exact absurd hb (by decide)
  have a4 : potT u = potT σ := by
    unfold potT
    rw [e1 (59, 7) (by decide) (hb59 7), e1 (59, 8) (by decide) (hb59 8), e1 (59, 10) (by decide) (hb59 10), e1 (59, 11) (by decide) (hb59 11), a3]
  have cu : csU u b c b = c := if_pos rfl
  have cs : csU σ b c b = c := if_pos rfl
  have a1 : potB u (csU u b c) + phiB b (kl σ (b, 1)) c = potB σ (csU σ b c) + phiB b N c := by
    have a1 : potB u (csU u b c) + phiB b (kl σ (b, 1)) (csU σ b c b) = potB σ (csU σ b c) + phiB b (kl u (b, 1)) (csU u b c b) := a1
    rw [cu, cs, e0] at a1; exact a1
  have key : phiB b N c + N ≤ phiB b (kl σ (b, 1)) c := by
    unfold phiB
    by_cases q : b ∈ payB
    · rw [if_pos q, if_pos q]
      have q15 : ¬ b ∈ [15, 24, 33, 42] := by
        intro z
        have : ∀ x ∈ payB, ¬ x ∈ [15, 24, 33, 42] := by decide
        exact this b q z
      rcases hN.2.2 with z | z
      · omega
      · exact absurd z.2 q15
    · rw [if_neg q, if_neg q]
      rcases hcap with z | ⟨z, z2⟩
      · exact absurd z q
      · unfold kphi
        rw [if_neg (show ¬ (kcapB b).1 ≤ kl σ (b, 1) by omega)]
        have hX : N ≤ (kcapB b).2 ∧ (2 * kl σ (b, 1) ≤ N ∨ N = (kcapB b).1) := by
          rcases z2 with z2 | ⟨z2, z3⟩
          · rcases hN.2.2 with w | w
            · omega
            · have : ∀ x ∈ [15, 24, 33, 42], kcapB x = (65536, 65536) := by decide
              rw [this b w.2] at z2 ⊢; omega
          · have : ∀ x ∈ [15, 24, 33, 42], kcapB x = (65536, 65536) := by decide
            rw [this b z2] at z ⊢
            rcases hN.2.2 with w | w
            · exact ⟨z3, Or.inl w.1⟩
            · exact ⟨z3, Or.inr w.1⟩
        by_cases g : (kcapB b).1 ≤ N
        · rw [if_pos g]; omega
        · rw [if_neg g]; omega
  have a5 : gcs u + 1 ≤ gcs σ := gcs_up (hO b hb) e1 (by
    rw [e0]
    refine glg_lt ?_ hN.2.1 h600
    rcases hN.2.2 with w | w
    · exact Or.inl w.1
    · exact Or.inr ⟨by omega, w.1⟩)
  obtain ⟨h1, h2⟩ := h
  refine ⟨?_, ?_⟩
  · rw [a2, a4]; omega
  · rw [a3]; omega
/-- a row of bytes, and what it holds -/
def kMo (b : Nat) : Nat := if b = 1 then 65540 else if b ∈ [5, 7, 9, 17, 26, 35, 44] then 67108864 else if b ∈ [13, 22, 31, 40] then 131076 else if b ∈ [15, 24, 33, 42] then 65536 else if b ∈ [68, 72] then 32 else 0
def BR (σ : kS) (b r N : Nat) (l : List Int32) : Prop := σ.2.2.1 b 1 = some r ∧ σ.2.2.2.1 r = (21, N) ∧ (64 ≤ N ∧ N ≤ 600000) ∧ σ.1 b 0 = nI (kMo b) ∧ σ.1 b 2 = nI l.length ∧ l.length ≤ N ∧ wd (σ.1 r) 0 l.length = l
def kBY (σ : kS) (b : Nat) (l : List Int32) : Prop := ∃ r N, BR σ b r N l
/-- only this row and its size have changed -/
def Wi (b r : Nat) (σ u : kS) : Prop := u.2 = σ.2 ∧ ∀ h x, ¬ h = r → ¬ (h = b ∧ x = 2) → u.1 h x = σ.1 h x
theorem Wi.rf {b r : Nat} {σ : kS} : Wi b r σ σ := ⟨rfl, fun _ _ _ _ => rfl⟩
theorem Wi.tr {b r : Nat} {σ u v : kS} (a : Wi b r σ u) (c : Wi b r u v) : Wi b r σ v := ⟨c.1.trans a.1, fun h x h1 h2 => (c.2 h x h1 h2).trans (a.2 h x h1 h2)⟩
theorem kMo_le (b : Nat) : kMo b ≤ 67108864 := by
  unfold kMo
  by_cases c1 : b = 1
  · rw [if_pos c1]; decide
  · rw [if_neg c1]
    by_cases c2 : b ∈ [5, 7, 9, 17, 26, 35, 44]
    · rw [if_pos c2]; decide
    · rw [if_neg c2]
      by_cases c3 : b ∈ [13, 22, 31, 40]
      · rw [if_pos c3]; decide
      · rw [if_neg c3]
        by_cases c4 : b ∈ [15, 24, 33, 42]
        · rw [if_pos c4]; decide
        · rw [if_neg c4]
          by_cases c5 : b ∈ [68, 72]
          · rw [if_pos c5]; decide
          · rw [if_neg c5]; decide
