/-! The request's words, and how they are noted. -/
section ARGS
variable {Y : Nat → MethodName × ByteArray} {d : Nat} {σ : mjS}
/-- the words of the request that is looked at -/
def AR (σ : mjS) (ws : List (List Int32)) : Prop := σ.1 f_words = nI ws.length ∧ ws.length ≤ 1024 ∧ ∀ (i : Nat) (w : List Int32), ws[i]? = some w → ∃ a : Nat, σ.2.2.1 r_aAt i = nI a ∧ σ.2.2.1 r_aLen i = nI w.length ∧ a + w.length ≤ 131200 ∧ wd (σ.2.2.1 r_req) a w.length = w
theorem AR.fr {fs hs : List Nat} {u : mjS} {ws : List (List Int32)} (h : AR σ ws) (f : Fr fs hs σ u) (h0 : f_words ∉ fs) (h1 : r_aAt ∉ hs) (h2 : r_aLen ∉ hs) (h3 : r_req ∉ hs) : AR u ws := by
  refine ⟨by rw [f.1 _ h0]; exact h.1, h.2.1, fun i w hw => ?_⟩
  rw [(f.2.2 _ h1).1, (f.2.2 _ h2).1, (f.2.2 _ h3).1]
  exact h.2.2 i w hw
set_option maxRecDepth 100000 in
theorem c_noteArg (ty : mjTY σ) {l : List Int32} (hp : pnd σ l) {ws : List (List Int32)} (har : AR σ ws) (i : Nat) (w : List Int32) (hw : ws[i]? = some w) (hl : l.length + w.length + 26 ≤ 420000) : mjY mjPP (mjQQ Y) (d + 3) 48 0 (mjL0 2 [.ref 0, .int (nI i)]) [] σ (fun r u => r = none ∧ Fr nF nH σ u ∧ pnd u (l ++ wordL w)) := by
  obtain ⟨e0, h0, hall⟩ := har
  obtain ⟨a, e1, e2, h1, h2⟩ := hall i w hw
  have hi : i < ws.length := (List.getElem?_eq_some_iff.mp hw).1
  have vi : vp_in (nI i) 1100 := vp_in_nI (by omega) (by decide)
  refine mjZ_y rfl rfl 13 _ _ _ _ ty ?_
  refine And.intro rfl (And.intro rfl (And.intro rfl (And.intro vi (And.intro rfl (And.intro rfl (And.intro vi ?_))))))
  have hc := c_noteWord (Y := Y) (d := d) ty hp r_req a w.length rfl (by decide) (by decide) (by show _ ≤ 131200; exact h1) (by decide) hl
  rw [← e1, ← e2, ← nI_clamp (n := i) (by omega)] at hc
  refine And.intro (Nat.le_of_ble_eq_true rfl) (And.intro rfl (And.intro (Nat.le_of_ble_eq_true rfl) (And.intro (Nat.le_of_ble_eq_true rfl) (mjY_mono ty (fun r u1 ty1 h1 => ?_) hc))))
  obtain ⟨rfl, f1, p1⟩ := h1
  intro _
  rw [h2] at p1
  exact And.intro rfl (And.intro rfl (And.intro rfl (And.intro f1 p1)))
/-- all words of a list as the log has them -/
def wordsL (ws : List (List Int32)) : List Int32 := ws.flatMap wordL
theorem wordsL_snoc (ws : List (List Int32)) (w : List Int32) : wordsL (ws ++ [w]) = wordsL ws ++ wordL w := by
  unfold wordsL; rw [List.flatMap_append]; simp
set_option maxRecDepth 100000 in
theorem c_noteAll_loop (K : mjK) (i : Int32) (ws : List (List Int32)) (l : List Int32) (hl : ∀ k, k ≤ ws.length → (l ++ wordsL ((ws.drop 1).take k)).length ≤ 420000) (hl2 : ∀ k w, ws[k + 1]? = some w → (l ++ wordsL ((ws.drop 1).take k)).length + w.length + 26 ≤ 420000) : ∀ (j k : Nat) (σ : mjS) (x : Int32), x = nI (k + 1) → k + 1 + j = ws.length → mjTY σ → AR σ ws → pnd σ (l ++ wordsL ((ws.drop 1).take k)) →
    (∀ u, mjTY u → Fr nF nH σ u → pnd u (l ++ wordsL (ws.drop 1)) → K none u) → mjY mjPP (mjQQ Y) (d + 4) 49 9 [some (.ref 0), some (.int i), some (.int x)] [] σ K := by
  intro j
  induction j with
  | zero =>
    intro k σ x ex hk ty har hp hK
    have h1024 := har.2.1
    refine mjZ_y rfl rfl 5 _ _ _ _ ty ?_
    refine And.intro rfl (And.intro (fun _ => And.intro rfl (And.intro rfl (hK σ ty Fr.rf ?_))) (fun c => absurd (show σ.1 f_words ≤ x by rw [har.1, ex]; exact nI_le (by omega) (by omega)) c))
    rw [List.take_of_length_le (by rw [List.length_drop]; omega)] at hp
    exact hp
  | succ j ih =>
    intro k σ x ex hk ty har hp hK
    have h1024 := har.2.1
    have hlt : k + 1 < ws.length := by omega
    have hw : ws[k + 1]? = some ws[k + 1] := List.getElem?_eq_getElem hlt
    refine mjZ_y rfl rfl 9 _ _ _ _ ty ?_
    refine And.intro rfl (And.intro (fun c => absurd (show σ.1 f_words ≤ x from c) (by rw [har.1, ex]; exact nI_ge (by omega) (by omega))) (fun _ => ?_))
    have hc := c_noteArg (Y := Y) (d := d) ty hp har (k + 1) ws[k + 1] hw (hl2 k _ hw)
    rw [← ex] at hc
    refine And.intro (Nat.le_of_ble_eq_true rfl) (And.intro rfl (And.intro (Nat.le_of_ble_eq_true rfl) (And.intro (Nat.le_of_ble_eq_true rfl) (mjY_mono ty (fun r u1 ty1 h1 => ?_) hc))))
    obtain ⟨rfl, f1, p1⟩ := h1
    intro _
    refine ih (k + 1) u1 _ (by rw [ex]; exact nI_1 _) (by omega) ty1 (har.fr f1 (by decide) (by decide) (by decide) (by decide)) ?_ (fun u tu fu pu => hK u tu (f1.tr fu) pu)
    rw [List.take_succ, List.getElem?_drop, show 1 + k = k + 1 by omega, hw]
    show pnd u1 (l ++ wordsL (_ ++ [ws[k + 1]]))
    rw [wordsL_snoc, ← List.append_assoc]; exact p1
end ARGS
