/-! The words that there may be while a live request runs. -/
section KWORDS2
variable {σ u : kS} {B B' ws nmm nmm' : List (List Int32)} {ks ks' : List KC} {p j : Nat} {now : Int64}
theorem KG.reB (g : KG B σ nmm ks) (h : ∀ w ∈ nmm, w ∈ B') : KG B' σ nmm ks := ⟨g.1, ⟨g.2.1.1, h⟩, g.2.2⟩
theorem KO.reB (g : KO B σ ws nmm ks) (h : ∀ w ∈ nmm, w ∈ B') : KO B' σ ws nmm ks := ⟨g.1.reB h, g.2⟩
/-- what a live request asks for -/
theorem JP_live (h : LJ (skA ks) p) (hr : RSD ks) (hB : BOK B ws) (hg : ∀ w ∈ gnW (skA ks) ws, w ∈ B) (hw : 1 ≤ ws.length) (h1024 : ws.length ≤ 1024) (htk : tkP j (nI (ws.length - 1))) (hW : ∀ w ∈ ws, WOK w) (hrw : rw ws ≤ p) (hj : j < 105) (hn : now < NEV) : JP B 0 now ws ks j := by
  obtain ⟨n1, n2, n3, n4⟩ := h.num
  rw [show (skA ks).length = ks.length from List.length_map _] at n1
  exact ⟨hr, hB, ⟨hw, h1024⟩, htk, h.1.1, hW, n1, n2, n3, n4, fun _ n m e1 e2 => hg _ (gn_in e1 e2), fun c => h.pqL hr hrw hw h1024 hj c, hn⟩
/-- no word twice: no more than there may be -/
theorem sl_nds : ∀ (l B : List (List Int32)), l.Nodup → (∀ w ∈ l, w ∈ B) → sl l ≤ sl B ∧ l.length ≤ B.length
  | [], _, _, _ => ⟨Nat.zero_le _, Nat.zero_le _⟩
  | w :: r, B, hd, hs => by
    obtain ⟨P, Q, e⟩ := List.append_of_mem (hs w (List.mem_cons_self ..))
    rw [List.nodup_cons] at hd
    have ih := sl_nds r (P ++ Q) hd.2 (fun x hx => by
      have h1 := hs x (List.mem_cons_of_mem _ hx)
      rw [e] at h1
      rcases List.mem_append.mp h1 with y | y
      · exact List.mem_append_left _ y
      · rcases List.mem_cons.mp y with z | z
        · rw [z] at hx; exact absurd hx hd.1
        · exact List.mem_append_right _ z)
    rw [e, sl_app']
    rw [sl_app', List.length_append] at ih
    show w.length + sl r ≤ sl P + (w.length + sl Q) ∧ _
    rw [List.length_append, List.length_cons, List.length_cons]
    omega
theorem WRD.nd (h : WRD σ nmm) : nmm.Nodup := by
  obtain ⟨rb, NB, rs, NS, rc, -, -, -, -, -, -, -, h9, -⟩ := h
  exact h9
/-- the words known, with what may come yet -/
def WBd (nmm : List (List Int32)) (p : Nat) : Prop := sl nmm + 4 * p ≤ 215000 ∧ nmm.length + p ≤ 35000
def LBw (nmm : List (List Int32)) (A : List AK) (ws : Req) : List (List Int32) := nmm ++ (ws ++ (gnW A ws ++ [[]]))
theorem gn_rw (A : List AK) (ws : Req) : sl ws + sl (gnW A ws) ≤ 4 * rw ws ∧ (1 ≤ ws.length → ws.length + (gnW A ws).length ≤ rw ws) := by
  have r := rw_ge ws
  rcases gn_sz A ws with e | ⟨h4, w, e, hw⟩
  · rw [e]; exact ⟨by show sl ws + 0 ≤ _; omega, fun _ => by simp only [List.length_nil]; omega⟩
  · rw [e]
    exact ⟨by show sl ws + (w.length + 0) ≤ _; omega, fun _ => by simp only [List.length_cons, List.length_nil]; omega⟩
theorem LB_ok (h : WBd nmm p) (hrw : rw ws ≤ p) (hw : 1 ≤ ws.length) (A : List AK) : BOK (LBw nmm A ws) ws ∧ (∀ w ∈ nmm, w ∈ LBw nmm A ws) ∧ (∀ w ∈ gnW A ws, w ∈ LBw nmm A ws) := by
  obtain ⟨g1, g2⟩ := gn_rw A ws
  have g2 := g2 hw
  obtain ⟨h1, h2⟩ := h
  have z : sl ([[]] : List (List Int32)) = 0 := rfl
  refine ⟨⟨?_, ?_, ?_, fun w hx => ?_⟩, fun w hx => List.mem_append_left _ hx, fun w hx => ?_⟩
  · unfold LBw; rw [sl_app', sl_app', sl_app', z]; omega
  · unfold LBw; rw [List.length_append, List.length_append, List.length_append, List.length_singleton]; omega
  · exact List.mem_append_right _ (List.mem_append_right _ (List.mem_append_right _ (List.mem_singleton.mpr rfl)))
  · exact List.mem_append_right _ (List.mem_append_left _ hx)
  · exact List.mem_append_right _ (List.mem_append_right _ (List.mem_append_left _ hx))
/-- the empty word is known, or comes once -/
def WBe (nmm : List (List Int32)) (p : Nat) : Prop := WBd nmm p ∧ ([] ∈ nmm ∨ nmm.length + p + 1 ≤ 35000)
theorem LB_step (h : WBe nmm p) (hrw : rw ws ≤ p) (hw : 1 ≤ ws.length) {A : List AK} (hp : PRE nmm nmm') (hd : nmm'.Nodup) (hs : ∀ w ∈ nmm', w ∈ LBw nmm A ws) : WBe nmm' (p - rw ws) := by
  obtain ⟨g1, g2⟩ := gn_rw A ws
  have g2 := g2 hw
  obtain ⟨⟨h1, h2⟩, h3⟩ := h
  have z : sl ([[]] : List (List Int32)) = 0 := rfl
  by_cases c : ([] : List Int32) ∈ nmm
  · have s := sl_nds nmm' (nmm ++ (ws ++ gnW A ws)) hd (fun w hx => by
      have := hs w hx
      unfold LBw at this
      rcases List.mem_append.mp this with y | y
      · exact List.mem_append_left _ y
      · rcases List.mem_append.mp y with y | y
        · exact List.mem_append_right _ (List.mem_append_left _ y)
        · rcases List.mem_append.mp y with y | y
          · exact List.mem_append_right _ (List.mem_append_right _ y)
          · rw [List.mem_singleton.mp y]; exact List.mem_append_left _ c)
    rw [sl_app', sl_app', List.length_append, List.length_append] at s
    obtain ⟨x, rfl⟩ := hp
    exact ⟨⟨by omega, by omega⟩, Or.inl (List.mem_append_left _ c)⟩
  · have s := sl_nds nmm' (LBw nmm A ws) hd hs
    have h3 := h3.resolve_left c
    by_cases c2 : ([] : List Int32) ∈ nmm'
    · unfold LBw at s
      rw [sl_app', sl_app', sl_app', z, List.length_append, List.length_append, List.length_append, List.length_singleton] at s
      exact ⟨⟨by omega, by omega⟩, Or.inl c2⟩
    · have s2 := sl_nds nmm' (nmm ++ (ws ++ gnW A ws)) hd (fun w hx => by
        have := hs w hx
        unfold LBw at this
        rcases List.mem_append.mp this with y | y
        · exact List.mem_append_left _ y
        · rcases List.mem_append.mp y with y | y
          · exact List.mem_append_right _ (List.mem_append_left _ y)
          · rcases List.mem_append.mp y with y | y
            · exact List.mem_append_right _ (List.mem_append_right _ y)
            · rw [List.mem_singleton.mp y] at hx; exact absurd hx c2)
      rw [sl_app', sl_app', List.length_append, List.length_append] at s2
      exact ⟨⟨by omega, by omega⟩, Or.inr (by omega)⟩
end KWORDS2
