/-! Keys that go with the time are steps of the class's log. -/
section KXPLOG
variable {now : Int64}
theorem del_19 {w : List Int32} (hw : WOK w) : (encR (delR w)).length ≤ 19 + 2 * w.length := by
  have e : delR w = [nm 22, w] := by unfold delR; rw [nm_22]
  obtain ⟨n1, n2, n3, n4, n5⟩ := nm_w
  have d := dl_1 (n := 2) (by decide)
  rw [e, encR_l, wL_c, wL_1, wordL_l w]
  show (dec (lN 2)).length + 3 + _ ≤ _
  by_cases c : w.length < 10
  · have := dl_1 c; omega
  · have := dl_6 (n := w.length) (by have := hw.1; omega); omega
def sgX (qs : List Req) : List Blk := qs.map (fun q => (false, [q]))
theorem sgX_e : ∀ qs : List Req, enE (sgX qs) = qs.flatMap encR
  | [] => rfl
  | q :: r => by
    show blkB false [q] ++ enE (sgX r) = _
    rw [sgX_e r, List.flatMap_cons, bqs_b (by simp)]
    show (List.flatMap encR [q]) ++ _ = _
    rw [List.flatMap_cons, List.flatMap_nil, List.append_nil]
theorem tm_mid (P Q : List KC) (y : KC) (h : ¬ y.2.2.2.2.2.2.2.1 = 0) : tmK (skA (P ++ y :: Q)) = tmK (skA (P ++ Q)) + (19 + 2 * y.2.2.2.2.2.1.length) := by
  unfold tmK
  have e : skA (P ++ y :: Q) = skA P ++ y.2.2.2.2.2 :: skA Q := by unfold skA; rw [List.map_append, List.map_cons]
  have e2 : skA (P ++ Q) = skA P ++ skA Q := by unfold skA; rw [List.map_append]
  rw [e, e2, tS_mid, uS_mid, tS_app, uS_app]
  have k1 : tK y.2.2.2.2.2 = 1 := if_neg h
  have k2 : uK y.2.2.2.2.2 = y.2.2.2.2.2.1.length := if_neg h
  rw [k1, k2]; omega
theorem xp_log (hn : now < NEV) {p : Nat} : ∀ (R P : List KC) (n : Nat), LJ (skA (P ++ R)) p → n + (tmK (skA (P ++ R)) + 8 * p) ≤ 207584 → KLg p n (skA (P ++ R)) (sgX (xpG now R)) (skA (P ++ xpS now R)) ∧ LJ (skA (P ++ xpS now R)) p ∧ n + (enE (sgX (xpG now R))).length + (tmK (skA (P ++ xpS now R)) + 8 * p) ≤ 207584 := by
  intro R
  induction R with
  | nil =>
    intro P n h hc
    exact ⟨rfl, h, by show n + 0 + _ ≤ _; exact hc⟩
  | cons y R ih =>
    intro P n h hc
    by_cases c : endE y.2.2.2.2.2 ≤ now
    · have eS : xpS now (y :: R) = xpS now R := by show (if _ then _ else _) = _; rw [if_pos c]
      have eG : xpG now (y :: R) = delR y.2.2.2.2.2.1 :: xpG now R := by show (if _ then _ else _) = _; rw [if_pos c]
      rw [eS, eG]
      have ht : ¬ y.2.2.2.2.2.2.2.1 = 0 := fun z => by
        have : endE y.2.2.2.2.2 = NEV := if_pos z
        rw [this] at c
        exact absurd hn (Int64.not_lt.mpr c)
      have hA := h.1.1
      have hk := ky_k (P := P) (Q := R) (x := y) hA.1
      have em : skA (P ++ y :: R) = skA P ++ y.2.2.2.2.2 :: skA R := by unfold skA; rw [List.map_append, List.map_cons]
      have er : rmA (skA (P ++ y :: R)) P.length = skA (P ++ R) := by
        rw [em, show P.length = (skA P).length from (List.length_map _).symm, rmA_at]; unfold skA; rw [List.map_append]
      have hW : WOK y.2.2.2.2.2.1 := (hA.2 y.2.2.2.2.2 (by rw [em]; exact List.mem_append_right _ (List.mem_cons_self ..))).1
      have h2 : LJ (skA (P ++ R)) p := by rw [← er]; exact LJ_rm h
      have st : KSt (skA (P ++ y :: R)) (delR y.2.2.2.2.2.1) (skA (P ++ R)) := by
        have := KSt_del hA h.num hW hk
        rw [er] at this
        unfold delR; rw [← nm_22]; exact this
      have cost := del_19 hW
      have tm := tm_mid P R y ht
      have eb : blkB false [delR y.2.2.2.2.2.1] = encR (delR y.2.2.2.2.2.1) := by
        rw [bqs_b (by simp)]
        show List.flatMap encR [_] = _
        rw [List.flatMap_cons, List.flatMap_nil, List.append_nil]
      obtain ⟨i1, i2, i3⟩ := ih P (n + (encR (delR y.2.2.2.2.2.1)).length) h2 (by omega)
      refine ⟨⟨by simp, fun _ => by simp, skA (P ++ R), ⟨skA (P ++ R), st, h2, rfl⟩, ?_, ?_⟩, i2, ?_⟩
      · show n + (blkB false [delR y.2.2.2.2.2.1]).length + (19 * tS (skA (P ++ R)) + 2 * uS (skA (P ++ R)) + 8 * p) ≤ 207584
        rw [eb]
        unfold tmK at tm hc
        omega
      · show KLg p (n + (blkB false [delR y.2.2.2.2.2.1]).length) _ _ _
        rw [eb]; exact i1
      · show n + (blkB false [delR y.2.2.2.2.2.1] ++ enE (sgX (xpG now R))).length + _ ≤ _
        rw [List.length_append, eb]; omega
    · have eS : xpS now (y :: R) = y :: xpS now R := by show (if _ then _ else _) = _; rw [if_neg c]
      have eG : xpG now (y :: R) = xpG now R := by show (if _ then _ else _) = _; rw [if_neg c]
      rw [eS, eG]
      have e1 : P ++ y :: R = (P ++ [y]) ++ R := by simp
      have e2 : P ++ y :: xpS now R = (P ++ [y]) ++ xpS now R := by simp
      rw [e1] at h hc ⊢
      rw [e2]
      exact ih (P ++ [y]) n h hc
end KXPLOG
