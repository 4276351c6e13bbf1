/-! What a live request does to the class's list is a step of its log. -/
section KLIVE
variable {ks : List KC} {ws : Req} {p j : Nat} {now : Int64}
/-- DEL of a key that is there -/
theorem KSt_del {A : List AK} {w : List Int32} {k : Nat} (hA : IA A) (hN : NUM A) (hw : WOK w) (h : kyI A w = some k) : KSt A [nm 22, w] (rmA A k) := by
  have a : (nm 22).map up = tb (txC 5) ∧ rid 5 = 22 ∧ (¬ (kCmd 5).2.2.2.1 &&& 2 = 0) := by decide +kernel
  have t : tkP 5 (nI 1) := by unfold tkP; decide +kernel
  have n := nm_ok 22 (by decide)
  have W : ∀ x ∈ [nm 22, w], WOK x := by
    intro x hx
    rcases List.mem_cons.mp hx with e | e
    · rw [e]; exact ⟨by omega, n.2⟩
    · rw [List.mem_singleton.mp e]; exact hw
  refine ⟨5, ⟨by decide, ⟨nm 22, rfl, a.1⟩, by simp, fun x hx => (W x hx).1, t⟩, ⟨a.2.2, by decide, by decide⟩, W, hA, hN, by rw [a.2.1]; exact PQ_light (by decide), by rw [a.2.1]; exact fun z => absurd z (by decide), fun now => by rw [a.2.1]; exact re_del h (nm 22) now⟩
theorem sl_drop1 {q : Req} (h : 1 ≤ q.length) : (gw q 0).length + sl (q.drop 1) = sl q := by
  cases q with
  | nil => simp at h
  | cons w r => rfl
theorem gw_nm {q : Req} (n : List Int32) {k : Nat} (hk : 1 ≤ k) : gw (n :: q.drop 1) k = gw q k := by
  obtain ⟨k, rfl⟩ : ∃ m, k = m + 1 := ⟨k - 1, by omega⟩
  unfold gw
  rw [List.getD_eq_getElem?_getD, List.getD_eq_getElem?_getD, List.getElem?_cons_succ, List.getElem?_drop, Nat.add_comm]
theorem PQ_nm {A : List AK} {i : Nat} {n : List Int32} (hw : 1 ≤ ws.length) (hn : n.length = (gw ws 0).length) (h : PQ A i ws) : PQ A i (n :: ws.drop 1) := by
  have e1 : (n :: ws.drop 1).length = ws.length := by rw [List.length_cons, List.length_drop]; omega
  have e2 : sl (n :: ws.drop 1) = sl ws := by
    show n.length + sl (ws.drop 1) = _
    rw [hn]; exact sl_drop1 hw
  unfold PQ
  rw [e1, e2]; exact h
/-- a live effect: how it comes -/
theorem rnC_live {A' : List AK} {i : Nat} {as : List (List Int32)} (e : rnC 0 now ks j ws = some (A', i, as)) : (¬ fuB 0 ks j) ∧ (rid j = 19 → ¬ sbC (gw ws 2) (gw ws 3) = none) ∧ ((∃ k, kyI (skA ks) (gw ws 1) = some k ∧ A' = rmA (skA ks) k ∧ i = 22 ∧ as = [gw ws 1] ∧ rid j = 2) ∨ rnF (rid j) ws now false (skA ks) = some (A', i, as)) := by
  unfold rnC at e
  by_cases c : fuB 0 ks j ∨ (rid j = 19 ∧ sbC (gw ws 2) (gw ws 3) = none)
  · rw [if_pos c] at e; cases e
  · rw [if_neg c] at e
    refine ⟨fun z => c (Or.inl z), fun z1 z2 => c (Or.inr ⟨z1, z2⟩), ?_⟩
    by_cases k : rid j = 2 ∧ KPZ 0 now (skA ks) ws
    · rw [if_pos k] at e
      obtain ⟨k0, -, f, ot, q, a, -, -, -, -, k5, -⟩ := k
      rw [k5] at e
      have e : some (rmA (skA ks) q, 22, [gw ws 1]) = some (A', i, as) := e
      cases e
      exact Or.inl ⟨q, k5, rfl, rfl, rfl, k0⟩
    · rw [if_neg k] at e
      exact Or.inr e
theorem nm_len (hj : j < 105) (hn : (gw ws 0).map up = tb (txC j)) : (nm (rid j)).length = (gw ws 0).length := by
  rw [← tb_nm j hj, ← hn, List.length_map]
/-- a step of the log, the numbers behind it -/
theorem K_live (hr : RSD ks) (h : LJ (skA ks) p) (hrw : rw ws ≤ p) (hW : ∀ w ∈ ws, WOK w) (h1024 : ws.length ≤ 1024) (hj : j < 105) (htk : tkP j (nI (ws.length - 1))) (hw : 1 ≤ ws.length) (hnm : (gw ws 0).map up = tb (txC j)) (hn : 0 ≤ now) (g1 : rid j = 2 → 2 ≤ ws.length) {A' : List AK} {i : Nat} {as : List (List Int32)} (e : rnC 0 now ks j ws = some (A', i, as)) : KSt (skA ks) (nm i :: as) A' ∧ LJ A' (p - rw ws) := by
  obtain ⟨c, hs, q⟩ := rnC_live e
  have hp : p ≤ 10240 := by have := h.2.2.2.2.2; omega
  have hR := rid_rng j hj
  have haf : afX (rid j) (ws.length - 1) = true := tk_af hj (by omega) htk
  have hN := h.num
  have hA := h.1.1
  rcases q with ⟨k, k1, rfl, rfl, rfl, k2⟩ | q
  · have w1 : WOK (gw ws 1) := hW _ (gw_mem (by have := g1 k2; omega))
    exact ⟨KSt_del hA hN w1 k1, (LJ_rm h).less (by omega)⟩
  · have hv : cHv.getD (rid j) false = true → memB (skA ks) < 60000 := by
      intro z
      have z2 := (rid_hv j hj).mpr z
      rw [fu_B hr hA.2 (by have := h.2.2.2.2.1; omega)] at c
      have : ¬ 60000 ≤ memB (skA ks) := fun y => c ⟨rfl, y, z2⟩
      omega
    obtain ⟨l1, -, -, -⟩ := live_LS h.1 hrw hp hW hw h1024 hR.1 hR.2 haf hn hv q
    have lg := rn_lg q
    have hg := gr_rn hA hW hw h1024 (by omega) haf hn rfl q
    have hx := gr_rnN hA hW hw h1024 (by omega) haf (by rw [nm_len hj hnm]; exact Nat.le_refl _) q
    refine ⟨?_, LJ_step h hrw hw h1024 hg.1 hg.2 hx hv⟩
    have hP : PQ (skA ks) (rid j) ws := h.pqL hr hrw hw h1024 hj c
    rcases lg with lg | ⟨rfl, lg2, rfl, lg4⟩
    · refine LSt_K l1 (lg_in (i := i) (Or.inl lg)) hA hN (PQ_light ?_) (fun z => ?_)
      · rcases lg with rfl | rfl | rfl <;> decide
      · rcases lg with rfl | rfl | rfl <;> exact absurd z (by decide)
    · refine LSt_K l1 (lg_in (Or.inr ⟨rfl, lg2⟩)) hA hN (PQ_nm hw (nm_len hj hnm) hP) (fun z => ?_)
      rw [gw_nm _ (by decide), gw_nm _ (by decide)]; exact hs z
/-- where nothing is noted -/
theorem K_live0 (h : LJ (skA ks) p) (e : rnC 0 now ks j ws = none) : LJ (efA (skA ks) (rnC 0 now ks j ws)) (p - rw ws) := by
  rw [e]; exact h.less (by omega)
end KLIVE
