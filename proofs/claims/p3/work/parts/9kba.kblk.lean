/-! A block comes to the class's log. -/
section KBLKS
theorem KLg_add {P : Nat} {E : List Blk} {A A' : List AK} {ns : List Req} {bl : Bool} (h : KLg P 0 [] E A) (hk : KCh P A ns A') (hn : ns ≠ []) (hb : bl = false → ns.length ≤ 1) (hc : (enE E).length + (blkB bl ns).length + (tmK A' + 8 * P) ≤ 207584) : KLg P 0 [] (E ++ [(bl, ns)]) A' := by
  refine KLg_app h ⟨hn, hb, A', hk, ?_, rfl⟩
  show 0 + (enE E).length + (blkB bl ns).length + (19 * tS A' + 2 * uS A' + 8 * P) ≤ 207584
  unfold tmK at hc
  omega
theorem nm_99 : nm 99 = tb 5 := by decide +kernel
theorem nm_100 : nm 100 = tb 4 := by decide +kernel
/-- the marks of a block: it runs, something is noted -/
def BMk (rb nb : Int32) (bl : Bool) (ns : List Req) : Prop := ((¬ rb = 0) ↔ bl = true) ∧ (bl = true → (nb = 0 ↔ ns = []))
theorem pf_pend {rb nb : Int32} {bl : Bool} {ns : List Req} (h : BMk rb nb bl ns) (e : Eff) : pendB bl ns ++ PFn 0 rb nb e = pendB bl (ns ++ noteR e) := by
  cases e with
  | none => show pendB bl ns ++ [] = pendB bl (ns ++ []); rw [List.append_nil, List.append_nil]
  | some x =>
    obtain ⟨A', i, as⟩ := x
    show pendB bl ns ++ (mlC rb nb ++ encR (nm i :: as)) = pendB bl (ns ++ [nm i :: as])
    unfold pendB mlC
    rw [if_neg (show ¬ ns ++ [nm i :: as] = [] by simp), encs_app, encs_1]
    cases bl with
    | true =>
      have r : ¬ rb = 0 := h.1.mpr rfl
      rw [if_pos rfl]
      by_cases c : ns = []
      · have z : nb = 0 := (h.2 rfl).mpr c
        rw [if_pos c, if_pos ⟨r, z⟩, c, nm_99]; rfl
      · have z : ¬ nb = 0 := fun y => c ((h.2 rfl).mp y)
        rw [if_neg c, if_neg (fun y => z y.2)]; simp only [List.nil_append, List.append_assoc]
    | false =>
      have r : rb = 0 := by
        refine Decidable.of_not_not (fun z => ?_)
        exact absurd (h.1.mp z) (by decide)
      rw [if_neg (show ¬ false = true by decide), if_neg (fun y : (¬ rb = 0) ∧ nb = 0 => y.1 r)]
      by_cases c : ns = []
      · rw [if_pos c, c]; rfl
      · rw [if_neg c]; simp only [List.nil_append, List.append_assoc]
theorem fin_blk {rb nb : Int32} {bl : Bool} {ns : List Req} (h : BMk rb nb bl ns) : pendB bl ns ++ exC rb nb = blkB bl ns := by
  unfold blkB exC
  cases bl with
  | true =>
    have r : ¬ rb = 0 := h.1.mpr rfl
    by_cases c : ns = []
    · have z : nb = 0 := (h.2 rfl).mpr c
      rw [if_pos c, if_neg (fun y => y.2 z), c]; rfl
    · have z : ¬ nb = 0 := fun y => c ((h.2 rfl).mp y)
      rw [if_neg c, if_pos ⟨r, z⟩, if_pos rfl, nm_100]
  | false =>
    have r : rb = 0 := by
      refine Decidable.of_not_not (fun z => ?_)
      exact absurd (h.1.mp z) (by decide)
    rw [if_neg (fun y => y.1 r), List.append_nil]
    by_cases c : ns = []
    · rw [if_pos c, c]; rfl
    · rw [if_neg c, if_neg (by decide)]
theorem pend_len {bl : Bool} {ns : List Req} : (pendB bl ns).length ≤ (encs ns).length + 15 ∧ (blkB bl ns).length ≤ (encs ns).length + 29 := by
  have a : (encR [nm 99]).length ≤ 15 ∧ (encR [nm 100]).length ≤ 14 := by decide +kernel
  have p : (pendB bl ns).length ≤ (encs ns).length + 15 := by
    unfold pendB
    split
    · exact Nat.zero_le _
    · rw [List.length_append]
      split
      · omega
      · simp only [List.length_nil]; omega
  refine ⟨p, ?_⟩
  unfold blkB
  split
  · exact Nat.zero_le _
  · split
    · rename_i hb
      rw [hb] at p
      rw [List.length_append]; omega
    · rename_i hb
      have e : bl = false := by cases bl; rfl; exact absurd rfl hb
      rw [e] at p; omega
/-- a live request within a block: what is noted, what it costs -/
theorem K_liveC {ks : List KC} {ws : Req} {p j : Nat} {now : Int64} (hr : RSD ks) (h : LJ (skA ks) p) (hrw : rw ws ≤ p) (hW : ∀ w ∈ ws, WOK w) (h1024 : ws.length ≤ 1024) (hj : j < 105) (htk : tkP j (nI (ws.length - 1))) (hw : 1 ≤ ws.length) (hnm : (gw ws 0).map up = tb (txC j)) (hn : 0 ≤ now) (g1 : rid j = 2 → 2 ≤ ws.length) : KCh (p - rw ws) (skA ks) (noteR (rnC 0 now ks j ws)) (efA (skA ks) (rnC 0 now ks j ws)) ∧ LJ (efA (skA ks) (rnC 0 now ks j ws)) (p - rw ws) ∧ (encs (noteR (rnC 0 now ks j ws))).length + tmK (efA (skA ks) (rnC 0 now ks j ws)) ≤ tmK (skA ks) + 8 * rw ws := by
  cases e : rnC 0 now ks j ws with
  | none => exact ⟨rfl, h.less (by omega), by show 0 + tmK (skA ks) ≤ _; omega⟩
  | some x =>
    obtain ⟨A', i, as⟩ := x
    obtain ⟨k1, k2⟩ := K_live hr h hrw hW h1024 hj htk hw hnm hn g1 e
    have c := K_cost h hW h1024 hj htk hw hnm g1 e
    refine ⟨⟨A', k1, k2, rfl⟩, k2, ?_⟩
    show (encs [nm i :: as]).length + tmK A' ≤ _
    rw [encs_1]; exact c
end KBLKS
