section ALL
variable {Y : Nat → MethodName × ByteArray} {d : Nat} {σ : mjS}
/-- no less than what the log takes for these words -/
def sz (ws : List (List Int32)) : Nat := (ws.map (fun w => w.length + 26)).sum
theorem sz_app (a b : List (List Int32)) : sz (a ++ b) = sz a + sz b := by unfold sz; rw [List.map_append, List.sum_append_nat]
theorem sz_cons (w : List Int32) (b : List (List Int32)) : sz (w :: b) = w.length + 26 + sz b := by unfold sz; rw [List.map_cons, List.sum_cons]
theorem wordsL_len (ws : List (List Int32)) : (wordsL ws).length ≤ sz ws := by
  induction ws with
  | nil => exact Nat.le_refl _
  | cons w r ih =>
    have e : wordsL (w :: r) = wordL w ++ wordsL r := by unfold wordsL; rw [List.flatMap_cons]
    rw [e, List.length_append, sz_cons]
    have := wordL_len w; omega
theorem sz_take {ws : List (List Int32)} {k : Nat} {w : List Int32} (h : ws[k]? = some w) : sz (ws.take k) + (w.length + 26) ≤ sz ws := by
  have hlt := (List.getElem?_eq_some_iff.mp h).1
  have e : ws = ws.take k ++ w :: ws.drop (k + 1) := by
    have e1 : ws.drop k = w :: ws.drop (k + 1) := by
      rw [List.drop_eq_getElem_cons hlt, (List.getElem?_eq_some_iff.mp h).2]
    rw [← e1, List.take_append_drop]
  have e2 : sz ws = sz (ws.take k) + (w.length + 26 + sz (ws.drop (k + 1))) := by
    conv => lhs; rw [e]
    rw [sz_app, sz_cons]
  omega
theorem sz_take_le (ws : List (List Int32)) (k : Nat) : sz (ws.take k) ≤ sz ws := by
  have e : sz ws = sz (ws.take k) + sz (ws.drop k) := by rw [← sz_app, List.take_append_drop]
  omega
theorem sz_drop_le (ws : List (List Int32)) (k : Nat) : sz (ws.drop k) ≤ sz ws := by
  have e : sz ws = sz (ws.take k) + sz (ws.drop k) := by rw [← sz_app, List.take_append_drop]
  omega
set_option maxRecDepth 100000 in
theorem c_noteAll (ty : mjTY σ) {l : List Int32} (hp : pnd σ l) {ws : List (List Int32)} (har : AR σ ws) (h1 : 1 ≤ ws.length) (i : Nat) (hi : i < 128) (hl : l.length + 132 + sz ws ≤ 420000) : mjY mjPP (mjQQ Y) (d + 5) 49 0 (mjL0 3 [.ref 0, .int (nI i)]) [] σ (fun r u => r = none ∧ ((¬ σ.1 f_replays = 0 ∧ u = σ) ∨ (σ.1 f_replays = 0 ∧ Fr nF nH3 σ u ∧ pnd u (l ++ begL σ l (lN ws.length) i ++ wordsL (ws.drop 1))))) := by
  have h1024 := har.2.1
  refine mjZ_y rfl rfl 6 _ _ _ _ ty ?_
  refine And.intro rfl ?_
  have hc := c_noteBegins (Y := Y) (d := d) ty hp ws.length i (by omega) hi (by omega)
  rw [← har.1] at hc
  refine And.intro (Nat.le_of_ble_eq_true rfl) (And.intro rfl (And.intro (Nat.le_of_ble_eq_true rfl) (And.intro (Nat.le_of_ble_eq_true rfl) (mjY_mono ty (fun r u1 ty1 h1 => ?_) hc))))
  rcases h1 with ⟨c, rfl, rfl⟩ | ⟨c, rfl, f1, p1⟩
  · intro _
    refine And.intro (fun q => absurd rfl q) (fun _ => ?_)
    refine mjZ_re rfl rfl 1 ty ?_
    exact And.intro rfl (And.intro rfl (And.intro rfl (Or.inl ⟨c, rfl⟩)))
  · intro _
    refine And.intro (fun _ => ?_) (fun q => absurd (show ¬ (1 : Int32) = 0 by decide) q)
    refine mjZ_re rfl rfl 2 ty1 ?_
    refine And.intro (Nat.le_of_ble_eq_true rfl) ?_
    have hb := begL_len (σ := σ) l (lN ws.length) i
    have hd := sz_drop_le ws 1
    refine c_noteAll_loop _ (nI i) ws (l ++ begL σ l (lN ws.length) i) (fun k _ => ?_) (fun k w hw => ?_) (ws.length - 1) 0 u1 _ rfl (by omega) ty1 (har.fr f1 (by decide) (by decide) (by decide) (by decide)) ?_ (fun u tu fu pu => ⟨rfl, Or.inr ⟨c, f1.tr (fu.up (by decide) (by decide)), pu⟩⟩)
    · rw [List.length_append, List.length_append]
      have := wordsL_len ((ws.drop 1).take k); have := sz_take_le (ws.drop 1) k; omega
    · rw [List.length_append, List.length_append]
      have := wordsL_len ((ws.drop 1).take k)
      have := sz_take (ws := ws.drop 1) (k := k) (w := w) (by rw [List.getElem?_drop, show 1 + k = k + 1 by omega]; exact hw)
      omega
    · rw [List.take_zero]; show pnd u1 (_ ++ [])
      rw [List.append_nil]; exact p1
set_option maxRecDepth 100000 in
theorem c_noteGone (ty : mjTY σ) {l : List Int32} (hp : pnd σ l) {ws : List (List Int32)} (har : AR σ ws) (i : Nat) (w : List Int32) (hw : ws[i]? = some w) (hl : l.length + 132 + (w.length + 26) ≤ 420000) : mjY mjPP (mjQQ Y) (d + 5) 50 0 (mjL0 2 [.ref 0, .int (nI i)]) [] σ (fun r u => r = none ∧ ((¬ σ.1 f_replays = 0 ∧ u = σ) ∨ (σ.1 f_replays = 0 ∧ Fr nF nH3 σ u ∧ pnd u (l ++ begL σ l 2 22 ++ wordL w)))) := by
  refine mjZ_y rfl rfl 5 _ _ _ _ ty ?_
  refine And.intro (Nat.le_of_ble_eq_true rfl) (And.intro rfl (And.intro (Nat.le_of_ble_eq_true rfl) (And.intro (Nat.le_of_ble_eq_true rfl) (mjY_mono ty (fun r u1 ty1 h1 => ?_) (c_noteBegins (Y := Y) (d := d) ty hp 2 22 (by decide) (by decide) (by omega))))))
  rcases h1 with ⟨c, rfl, rfl⟩ | ⟨c, rfl, f1, p1⟩
  · intro _
    refine And.intro (fun q => absurd rfl q) (fun _ => ?_)
    refine mjZ_re rfl rfl 1 ty ?_
    exact And.intro rfl (And.intro rfl (And.intro rfl (Or.inl ⟨c, rfl⟩)))
  · intro _
    refine And.intro (fun _ => ?_) (fun q => absurd (show ¬ (1 : Int32) = 0 by decide) q)
    refine mjZ_re rfl rfl 4 ty1 ?_
    have hb := begL_len (σ := σ) l 2 22
    refine And.intro (Nat.le_of_ble_eq_true rfl) (And.intro rfl (And.intro (Nat.le_of_ble_eq_true rfl) (And.intro (Nat.le_of_ble_eq_true rfl) (mjY_mono ty1 (fun r u2 ty2 h2 => ?_) (c_noteArg (Y := Y) (d := d + 1) ty1 p1 (har.fr f1 (by decide) (by decide) (by decide) (by decide)) i w hw (by rw [List.length_append]; have : (begL σ l (lN 2) 22).length ≤ 132 := hb; omega))))))
    obtain ⟨rfl, f2, p2⟩ := h2
    intro _
    exact And.intro rfl (And.intro rfl (And.intro rfl (Or.inr ⟨c, f1.tr (f2.up (by decide) (by decide)), p2⟩)))
end ALL
