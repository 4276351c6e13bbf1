/-! options: pops, sides, ranges. -/
section OPTY
variable {Y : Nat → MethodName × ByteArray} {d : Nat}
set_option maxRecDepth 100000 in
theorem c_bounds23s {σ : mjS} {ws : List (List Int32)} {ks : List KR} {l : List Int32} (h : Wd σ ws ks l) (ty : mjTY σ) {v w : List Int32} (hv : ws[2]? = some v) (hw : ws[3]? = some w) : mjY mjPP (mjQQ Y) (d + 5) 63 0 (mjL0 5 [.ref 0, .int (Int32.ofInt 2), .int (Int32.ofInt 3)]) [] σ (fun r u => ∃ b : Bool, r = some (.int (bI b)) ∧ Fr bsFs oH σ u ∧ Wd u ws ks l) := by
  have bad : ∀ (u : mjS) (l3 l4 : Option Value), mjTY u → Fr bsFs oH σ u → Wd u ws ks l → mjY mjPP (mjQQ Y) (d + 5) 63 36 [some (.ref 0), some (.int (Int32.ofInt 2)), some (.int (Int32.ofInt 3)), l3, l4] [] u (fun r u => ∃ b : Bool, r = some (.int (bI b)) ∧ Fr bsFs oH σ u ∧ Wd u ws ks l) := by
    intro u l3 l4 tu fu hu
    refine mjZ_y rfl rfl 4 _ _ _ _ tu ?_
    refine (And.intro (Nat.le_of_ble_eq_true rfl) (And.intro rfl (And.intro (Nat.le_of_ble_eq_true rfl) (And.intro (Nat.le_of_ble_eq_true rfl) (mjY_mono tu (fun q_ u2 ty2 h_ => ?_) (w_error hu tu _ _))))))
    obtain ⟨rfl, h2, f2⟩ := h_
    intro _
    refine mjZ_y rfl rfl 1 _ _ _ _ ty2 ?_
    refine And.intro rfl (And.intro (Or.inr ⟨rfl, Or.inl rfl⟩) ?_)
    exact ⟨false, rfl, fu.tr (f2.1.up (by decide) (by decide)), h2⟩
  refine mjZ_y rfl rfl 20 _ _ _ _ ty ?_
  refine (bk_f rfl (And.intro (Nat.le_of_ble_eq_true rfl) (bk_f rfl (And.intro (Nat.le_of_ble_eq_true rfl) (bk_f rfl (And.intro (Nat.le_of_ble_eq_true rfl) (And.intro rfl (And.intro (Nat.le_of_ble_eq_true rfl) (And.intro (Nat.le_of_ble_eq_true rfl) (mjY_mono ty (fun q_ u2 ty2 h_ => ?_) (c_bound_1 h ty hv (x := Int32.ofInt 2) rfl)))))))))))
  obtain ⟨rfl, f2, q2⟩ := h_
  intro _
  have h2 := h.fr f2 (by decide) (by decide)
  have f2s : Fr bsFs oH σ u2 := f2.up (by decide) (by decide)
  refine mjZ_y rfl rfl 1 _ _ _ _ ty2 ?_
  refine And.intro (fun c => ?_) (fun c => ?_)
  · exact bad u2 _ _ ty2 f2s h2
  · refine mjZ_y rfl rfl 7 _ _ _ _ ty2 ?_
    refine (bk_t rfl (And.intro (Nat.le_of_ble_eq_true rfl) (And.intro rfl (And.intro (Nat.le_of_ble_eq_true rfl) (And.intro (Nat.le_of_ble_eq_true rfl) (mjY_mono ty2 (fun q_ u3 ty3 h_ => ?_) (c_bound_0 h2 ty2 hw (x := Int32.ofInt 3) rfl)))))))
    obtain ⟨rfl, f3, q3⟩ := h_
    intro _
    have h3 := h2.fr f3 (by decide) (by decide)
    have f3s : Fr bsFs oH σ u3 := f2s.tr (f3.up (by decide) (by decide))
    refine mjZ_y rfl rfl 1 _ _ _ _ ty3 ?_
    refine And.intro (fun c => ?_) (fun c => ?_)
    · exact bad u3 _ _ ty3 f3s h3
    · refine mjZ_y rfl rfl 2 _ _ _ _ ty3 ?_
      refine And.intro rfl (And.intro (Or.inr ⟨rfl, Or.inr rfl⟩) ?_)
      exact ⟨true, rfl, f3s, h3⟩
def siD (w : List Int32) : Bool := decide (isF w 1279608404 = 1 ∨ isF w 353416726612 = 1)
set_option maxRecDepth 100000 in
theorem c_opt_41 {u : mjS} {ws : List (List Int32)} {ks : List KR} {l : List Int32} (h : Wd u ws ks l) (ty : mjTY u) (z : flZ u)  : mjY mjPP (mjQQ Y) (d + 7) 72 3 [some (.ref 0), some (.int (nI 41))] [] u (opK u ws ks l (ppR ws).isSome (fun t => ∀ q, ppR ws = some q → t.2.1 f_n1 = q)) := by
  have ne : ∀ c : Nat, c < 128 ∧ c ≠ 41 → ¬ nI 41 = nI c := fun c hc y => hc.2 ((nI_eq (by decide) (by omega)).mp y).symm
  have h1024 := h.2.1.2.1
  refine mjZ_y rfl rfl 70 _ _ _ _ ty ?_
  refine (bn_t (ne 2 (by decide)) (bn_f (ne 6 (by decide)) (bn_t (ne 7 (by decide)) (bk_f rfl (bk_t rfl (bn_f (ne 13 (by decide)) (bn_f (ne 44 (by decide)) (bn_f (ne 49 (by decide)) (bn_f (ne 90 (by decide)) (bn_t (ne 21 (by decide)) (bn_t (ne 19 (by decide)) (bn_f (ne 14 (by decide)) (bn_t (ne 20 (by decide)) (bn_f (ne 17 (by decide)) (bn_f (ne 18 (by decide)) (bn_f (ne 45 (by decide)) (bn_f (ne 46 (by decide)) (bn_f (ne 48 (by decide)) (bn_t (ne 81 (by decide)) (bn_t (ne 63 (by decide)) (bn_t rfl (And.intro rfl (And.intro rfl (fun ty' => (And.intro rfl (And.intro (fun c => ?_) (fun c => ?_)))))))))))))))))))))))))))
  · have f0 : Fr [f_n1] [] u (u.1, vp_updL u.2.1 f_n1 1, u.2.2) := Fr.l (by decide)
    have go : ∀ u1 : mjS, mjTY u1 → Fr [f_n1] [] u u1 → mjY mjPP (mjQQ Y) (d + 7) 72 207 [some (.ref 0), some (.int (nI 41))] [] u1 (opK u ws ks l (ppR ws).isSome (fun t => ∀ q, ppR ws = some q → t.2.1 f_n1 = q)) := by
      intro u1 tu1 f1
      have w1 := h.fr f1 (by decide) (by decide)
      have hl : 2 < ws.length := by
        have c : nI 3 ≤ u.1 f_words := c
        rw [h.2.1.1] at c
        have := (nI_leI (by decide) (by omega)).mp c; omega
      have g2 : ws[2]? = some ws[2] := List.getElem?_eq_getElem hl
      have eP : ppR ws = srR false ws[2] := by unfold ppR; rw [g2]
      rw [eP]
      generalize ws[2] = v at g2
      refine mjZ_y rfl rfl 3 _ _ _ _ tu1 ?_
      refine (And.intro (Nat.le_of_ble_eq_true rfl) (And.intro rfl (And.intro (Nat.le_of_ble_eq_true rfl) (And.intro (Nat.le_of_ble_eq_true rfl) (mjY_mono tu1 (fun q_ u2 ty2 h_ => ?_) (c_oneInteger w1 tu1 g2 (x := Int32.ofInt 2) rfl))))))
      obtain ⟨rfl, f2, w2, q2⟩ := h_
      intro _
      have f2o : Fr opFs oH u u2 := (f1.up (by decide) (by decide)).tr (f2.up (by decide) (by decide))
      cases ht : intF v with
      | none =>
        have e : srR false v = none := by unfold srR; rw [ht]; rfl
        rw [e]
        refine mjZ_y rfl rfl 1 _ _ _ _ ty2 ?_
        refine And.intro (fun c => ?_) (fun c => ?_)
        · exact absurd rfl c
        · refine mjZ_y rfl rfl 2 _ _ _ _ ty2 ?_
          refine And.intro rfl (And.intro (Or.inr ⟨rfl, Or.inl rfl⟩) ?_)
          exact ⟨rfl, f2o, w2, fun z => by cases z⟩
      | some n =>
        have e1 := q2 n ht
        have e : srR false v = if n < 0 ∨ (false = true ∧ 131071 < n) then none else some n := by unfold srR; rw [ht]; rfl
        rw [e]
        refine mjZ_y rfl rfl 1 _ _ _ _ ty2 ?_
        refine And.intro (fun c => ?_) (fun c => ?_)
        · refine mjZ_y rfl rfl 5 _ _ _ _ ty2 ?_
          refine (And.intro rfl (And.intro (fun a => ?_) (fun a => ?_)))
          · have y : ¬ (n < 0 ∨ (false = true ∧ 131071 < n)) := fun y => y.elim (fun y => Int64.not_le.mpr y (by rw [← e1]; exact (lg_cmp_ge _ _).mp a)) (fun y => by cases y.1)
            rw [if_neg y]
            refine mjZ_y rfl rfl 2 _ _ _ _ ty2 ?_
            refine And.intro rfl (And.intro (Or.inr ⟨rfl, Or.inr rfl⟩) ?_)
            exact ⟨rfl, f2o, w2, fun _ q' y => by rw [← Option.some.inj y]; exact e1⟩
          · have y : n < 0 ∨ (false = true ∧ 131071 < n) := Or.inl (by rw [← e1]; exact Int64.not_le.mp (fun y => a ((lg_cmp_ge _ _).mpr y)))
            rw [if_pos y]
            refine mjZ_y rfl rfl 2 _ _ _ _ ty2 ?_
            refine (And.intro (Nat.le_of_ble_eq_true rfl) (And.intro rfl (And.intro (Nat.le_of_ble_eq_true rfl) (And.intro (Nat.le_of_ble_eq_true rfl) (mjY_mono ty2 (fun q_ u3 ty3 h_ => ?_) (w_outOfRange w2 ty2))))))
            obtain ⟨rfl, w3, f3⟩ := h_
            intro _
            refine mjZ_y rfl rfl 1 _ _ _ _ ty3 ?_
            refine And.intro rfl (And.intro (Or.inr ⟨rfl, Or.inl rfl⟩) ?_)
            exact ⟨rfl, f2o.tr f3.op, w3, fun z => by cases z⟩
        · exact absurd (show ¬ (1 : Int32) = 0 by decide) c
    exact go _ ty' f0
  · have hl : ws.length ≤ 2 := by
      refine Nat.le_of_not_lt (fun y => c (show nI 3 ≤ u.1 f_words by rw [h.2.1.1]; exact nI_le y (by omega)))
    have eP : ppR ws = some 1 := by unfold ppR; rw [List.getElem?_eq_none hl]
    rw [eP]
    refine mjZ_y rfl rfl 2 _ _ _ _ ty' ?_
    refine And.intro rfl (And.intro (Or.inr ⟨rfl, Or.inr rfl⟩) ?_)
    have f0 : Fr [f_n1] [] u (u.1, vp_updL u.2.1 f_n1 1, u.2.2) := Fr.l (by decide)
    exact ⟨rfl, f0.up (by decide) (by decide), h.fr f0 (by decide) (by decide), fun _ q y => by rw [← Option.some.inj y]; exact pk_uLs (f := u.2.1) (k := f_n1) (x := 1)⟩
set_option maxRecDepth 100000 in
theorem c_opt_42 {u : mjS} {ws : List (List Int32)} {ks : List KR} {l : List Int32} (h : Wd u ws ks l) (ty : mjTY u) (z : flZ u)  : mjY mjPP (mjQQ Y) (d + 7) 72 3 [some (.ref 0), some (.int (nI 42))] [] u (opK u ws ks l (ppR ws).isSome (fun t => ∀ q, ppR ws = some q → t.2.1 f_n1 = q)) := by
  have ne : ∀ c : Nat, c < 128 ∧ c ≠ 42 → ¬ nI 42 = nI c := fun c hc y => hc.2 ((nI_eq (by decide) (by omega)).mp y).symm
  have h1024 := h.2.1.2.1
  refine mjZ_y rfl rfl 73 _ _ _ _ ty ?_
  refine (bn_t (ne 2 (by decide)) (bn_f (ne 6 (by decide)) (bn_t (ne 7 (by decide)) (bk_f rfl (bk_t rfl (bn_f (ne 13 (by decide)) (bn_f (ne 44 (by decide)) (bn_f (ne 49 (by decide)) (bn_f (ne 90 (by decide)) (bn_t (ne 21 (by decide)) (bn_t (ne 19 (by decide)) (bn_f (ne 14 (by decide)) (bn_t (ne 20 (by decide)) (bn_f (ne 17 (by decide)) (bn_f (ne 18 (by decide)) (bn_f (ne 45 (by decide)) (bn_f (ne 46 (by decide)) (bn_f (ne 48 (by decide)) (bn_t (ne 81 (by decide)) (bn_t (ne 63 (by decide)) (bn_f (ne 41 (by decide)) (bn_t rfl (And.intro rfl (And.intro rfl (fun ty' => (And.intro rfl (And.intro (fun c => ?_) (fun c => ?_))))))))))))))))))))))))))))
  · have f0 : Fr [f_n1] [] u (u.1, vp_updL u.2.1 f_n1 1, u.2.2) := Fr.l (by decide)
    have go : ∀ u1 : mjS, mjTY u1 → Fr [f_n1] [] u u1 → mjY mjPP (mjQQ Y) (d + 7) 72 207 [some (.ref 0), some (.int (nI 42))] [] u1 (opK u ws ks l (ppR ws).isSome (fun t => ∀ q, ppR ws = some q → t.2.1 f_n1 = q)) := by
      intro u1 tu1 f1
      have w1 := h.fr f1 (by decide) (by decide)
      have hl : 2 < ws.length := by
        have c : nI 3 ≤ u.1 f_words := c
        rw [h.2.1.1] at c
        have := (nI_leI (by decide) (by omega)).mp c; omega
      have g2 : ws[2]? = some ws[2] := List.getElem?_eq_getElem hl
      have eP : ppR ws = srR false ws[2] := by unfold ppR; rw [g2]
      rw [eP]
      generalize ws[2] = v at g2
      refine mjZ_y rfl rfl 3 _ _ _ _ tu1 ?_
      refine (And.intro (Nat.le_of_ble_eq_true rfl) (And.intro rfl (And.intro (Nat.le_of_ble_eq_true rfl) (And.intro (Nat.le_of_ble_eq_true rfl) (mjY_mono tu1 (fun q_ u2 ty2 h_ => ?_) (c_oneInteger w1 tu1 g2 (x := Int32.ofInt 2) rfl))))))
      obtain ⟨rfl, f2, w2, q2⟩ := h_
      intro _
      have f2o : Fr opFs oH u u2 := (f1.up (by decide) (by decide)).tr (f2.up (by decide) (by decide))
      cases ht : intF v with
      | none =>
        have e : srR false v = none := by unfold srR; rw [ht]; rfl
        rw [e]
        refine mjZ_y rfl rfl 1 _ _ _ _ ty2 ?_
        refine And.intro (fun c => ?_) (fun c => ?_)
        · exact absurd rfl c
        · refine mjZ_y rfl rfl 2 _ _ _ _ ty2 ?_
          refine And.intro rfl (And.intro (Or.inr ⟨rfl, Or.inl rfl⟩) ?_)
          exact ⟨rfl, f2o, w2, fun z => by cases z⟩
      | some n =>
        have e1 := q2 n ht
        have e : srR false v = if n < 0 ∨ (false = true ∧ 131071 < n) then none else some n := by unfold srR; rw [ht]; rfl
        rw [e]
        refine mjZ_y rfl rfl 1 _ _ _ _ ty2 ?_
        refine And.intro (fun c => ?_) (fun c => ?_)
        · refine mjZ_y rfl rfl 5 _ _ _ _ ty2 ?_
          refine (And.intro rfl (And.intro (fun a => ?_) (fun a => ?_)))
          · have y : ¬ (n < 0 ∨ (false = true ∧ 131071 < n)) := fun y => y.elim (fun y => Int64.not_le.mpr y (by rw [← e1]; exact (lg_cmp_ge _ _).mp a)) (fun y => by cases y.1)
            rw [if_neg y]
            refine mjZ_y rfl rfl 2 _ _ _ _ ty2 ?_
            refine And.intro rfl (And.intro (Or.inr ⟨rfl, Or.inr rfl⟩) ?_)
            exact ⟨rfl, f2o, w2, fun _ q' y => by rw [← Option.some.inj y]; exact e1⟩
          · have y : n < 0 ∨ (false = true ∧ 131071 < n) := Or.inl (by rw [← e1]; exact Int64.not_le.mp (fun y => a ((lg_cmp_ge _ _).mpr y)))
            rw [if_pos y]
            refine mjZ_y rfl rfl 2 _ _ _ _ ty2 ?_
            refine (And.intro (Nat.le_of_ble_eq_true rfl) (And.intro rfl (And.intro (Nat.le_of_ble_eq_true rfl) (And.intro (Nat.le_of_ble_eq_true rfl) (mjY_mono ty2 (fun q_ u3 ty3 h_ => ?_) (w_outOfRange w2 ty2))))))
            obtain ⟨rfl, w3, f3⟩ := h_
            intro _
            refine mjZ_y rfl rfl 1 _ _ _ _ ty3 ?_
            refine And.intro rfl (And.intro (Or.inr ⟨rfl, Or.inl rfl⟩) ?_)
            exact ⟨rfl, f2o.tr f3.op, w3, fun z => by cases z⟩
        · exact absurd (show ¬ (1 : Int32) = 0 by decide) c
    exact go _ ty' f0
  · have hl : ws.length ≤ 2 := by
      refine Nat.le_of_not_lt (fun y => c (show nI 3 ≤ u.1 f_words by rw [h.2.1.1]; exact nI_le y (by omega)))
    have eP : ppR ws = some 1 := by unfold ppR; rw [List.getElem?_eq_none hl]
    rw [eP]
    refine mjZ_y rfl rfl 2 _ _ _ _ ty' ?_
    refine And.intro rfl (And.intro (Or.inr ⟨rfl, Or.inr rfl⟩) ?_)
    have f0 : Fr [f_n1] [] u (u.1, vp_updL u.2.1 f_n1 1, u.2.2) := Fr.l (by decide)
    exact ⟨rfl, f0.up (by decide) (by decide), h.fr f0 (by decide) (by decide), fun _ q y => by rw [← Option.some.inj y]; exact pk_uLs (f := u.2.1) (k := f_n1) (x := 1)⟩
set_option maxRecDepth 100000 in
theorem c_opt_92 {u : mjS} {ws : List (List Int32)} {ks : List KR} {l : List Int32} (h : Wd u ws ks l) (ty : mjTY u) (z : flZ u)  : mjY mjPP (mjQQ Y) (d + 7) 72 3 [some (.ref 0), some (.int (nI 92))] [] u (opK u ws ks l (ppR ws).isSome (fun t => ∀ q, ppR ws = some q → t.2.1 f_n1 = q)) := by
  have ne : ∀ c : Nat, c < 128 ∧ c ≠ 92 → ¬ nI 92 = nI c := fun c hc y => hc.2 ((nI_eq (by decide) (by omega)).mp y).symm
  have h1024 := h.2.1.2.1
  refine mjZ_y rfl rfl 76 _ _ _ _ ty ?_
  refine (bn_t (ne 2 (by decide)) (bn_f (ne 6 (by decide)) (bn_t (ne 7 (by decide)) (bk_f rfl (bk_t rfl (bn_f (ne 13 (by decide)) (bn_f (ne 44 (by decide)) (bn_f (ne 49 (by decide)) (bn_f (ne 90 (by decide)) (bn_t (ne 21 (by decide)) (bn_t (ne 19 (by decide)) (bn_f (ne 14 (by decide)) (bn_t (ne 20 (by decide)) (bn_f (ne 17 (by decide)) (bn_f (ne 18 (by decide)) (bn_f (ne 45 (by decide)) (bn_f (ne 46 (by decide)) (bn_f (ne 48 (by decide)) (bn_t (ne 81 (by decide)) (bn_t (ne 63 (by decide)) (bn_f (ne 41 (by decide)) (bn_f (ne 42 (by decide)) (bn_t rfl (And.intro rfl (And.intro rfl (fun ty' => (And.intro rfl (And.intro (fun c => ?_) (fun c => ?_)))))))))))))))))))))))))))))
  · have f0 : Fr [f_n1] [] u (u.1, vp_updL u.2.1 f_n1 1, u.2.2) := Fr.l (by decide)
    have go : ∀ u1 : mjS, mjTY u1 → Fr [f_n1] [] u u1 → mjY mjPP (mjQQ Y) (d + 7) 72 207 [some (.ref 0), some (.int (nI 92))] [] u1 (opK u ws ks l (ppR ws).isSome (fun t => ∀ q, ppR ws = some q → t.2.1 f_n1 = q)) := by
      intro u1 tu1 f1
      have w1 := h.fr f1 (by decide) (by decide)
      have hl : 2 < ws.length := by
        have c : nI 3 ≤ u.1 f_words := c
        rw [h.2.1.1] at c
        have := (nI_leI (by decide) (by omega)).mp c; omega
      have g2 : ws[2]? = some ws[2] := List.getElem?_eq_getElem hl
      have eP : ppR ws = srR false ws[2] := by unfold ppR; rw [g2]
      rw [eP]
      generalize ws[2] = v at g2
      refine mjZ_y rfl rfl 3 _ _ _ _ tu1 ?_
      refine (And.intro (Nat.le_of_ble_eq_true rfl) (And.intro rfl (And.intro (Nat.le_of_ble_eq_true rfl) (And.intro (Nat.le_of_ble_eq_true rfl) (mjY_mono tu1 (fun q_ u2 ty2 h_ => ?_) (c_oneInteger w1 tu1 g2 (x := Int32.ofInt 2) rfl))))))
      obtain ⟨rfl, f2, w2, q2⟩ := h_
      intro _
      have f2o : Fr opFs oH u u2 := (f1.up (by decide) (by decide)).tr (f2.up (by decide) (by decide))
      cases ht : intF v with
      | none =>
        have e : srR false v = none := by unfold srR; rw [ht]; rfl
        rw [e]
        refine mjZ_y rfl rfl 1 _ _ _ _ ty2 ?_
        refine And.intro (fun c => ?_) (fun c => ?_)
        · exact absurd rfl c
        · refine mjZ_y rfl rfl 2 _ _ _ _ ty2 ?_
          refine And.intro rfl (And.intro (Or.inr ⟨rfl, Or.inl rfl⟩) ?_)
          exact ⟨rfl, f2o, w2, fun z => by cases z⟩
      | some n =>
        have e1 := q2 n ht
        have e : srR false v = if n < 0 ∨ (false = true ∧ 131071 < n) then none else some n := by unfold srR; rw [ht]; rfl
        rw [e]
        refine mjZ_y rfl rfl 1 _ _ _ _ ty2 ?_
        refine And.intro (fun c => ?_) (fun c => ?_)
        · refine mjZ_y rfl rfl 5 _ _ _ _ ty2 ?_
          refine (And.intro rfl (And.intro (fun a => ?_) (fun a => ?_)))
          · have y : ¬ (n < 0 ∨ (false = true ∧ 131071 < n)) := fun y => y.elim (fun y => Int64.not_le.mpr y (by rw [← e1]; exact (lg_cmp_ge _ _).mp a)) (fun y => by cases y.1)
            rw [if_neg y]
            refine mjZ_y rfl rfl 2 _ _ _ _ ty2 ?_
            refine And.intro rfl (And.intro (Or.inr ⟨rfl, Or.inr rfl⟩) ?_)
            exact ⟨rfl, f2o, w2, fun _ q' y => by rw [← Option.some.inj y]; exact e1⟩
          · have y : n < 0 ∨ (false = true ∧ 131071 < n) := Or.inl (by rw [← e1]; exact Int64.not_le.mp (fun y => a ((lg_cmp_ge _ _).mpr y)))
            rw [if_pos y]
            refine mjZ_y rfl rfl 2 _ _ _ _ ty2 ?_
            refine (And.intro (Nat.le_of_ble_eq_true rfl) (And.intro rfl (And.intro (Nat.le_of_ble_eq_true rfl) (And.intro (Nat.le_of_ble_eq_true rfl) (mjY_mono ty2 (fun q_ u3 ty3 h_ => ?_) (w_outOfRange w2 ty2))))))
            obtain ⟨rfl, w3, f3⟩ := h_
            intro _
            refine mjZ_y rfl rfl 1 _ _ _ _ ty3 ?_
            refine And.intro rfl (And.intro (Or.inr ⟨rfl, Or.inl rfl⟩) ?_)
            exact ⟨rfl, f2o.tr f3.op, w3, fun z => by cases z⟩
        · exact absurd (show ¬ (1 : Int32) = 0 by decide) c
    exact go _ ty' f0
  · have hl : ws.length ≤ 2 := by
      refine Nat.le_of_not_lt (fun y => c (show nI 3 ≤ u.1 f_words by rw [h.2.1.1]; exact nI_le y (by omega)))
    have eP : ppR ws = some 1 := by unfold ppR; rw [List.getElem?_eq_none hl]
    rw [eP]
    refine mjZ_y rfl rfl 2 _ _ _ _ ty' ?_
    refine And.intro rfl (And.intro (Or.inr ⟨rfl, Or.inr rfl⟩) ?_)
    have f0 : Fr [f_n1] [] u (u.1, vp_updL u.2.1 f_n1 1, u.2.2) := Fr.l (by decide)
    exact ⟨rfl, f0.up (by decide) (by decide), h.fr f0 (by decide) (by decide), fun _ q y => by rw [← Option.some.inj y]; exact pk_uLs (f := u.2.1) (k := f_n1) (x := 1)⟩
set_option maxRecDepth 100000 in
theorem c_opt_93 {u : mjS} {ws : List (List Int32)} {ks : List KR} {l : List Int32} (h : Wd u ws ks l) (ty : mjTY u) (z : flZ u)  : mjY mjPP (mjQQ Y) (d + 7) 72 3 [some (.ref 0), some (.int (nI 93))] [] u (opK u ws ks l (ppR ws).isSome (fun t => ∀ q, ppR ws = some q → t.2.1 f_n1 = q)) := by
  have ne : ∀ c : Nat, c < 128 ∧ c ≠ 93 → ¬ nI 93 = nI c := fun c hc y => hc.2 ((nI_eq (by decide) (by omega)).mp y).symm
  have h1024 := h.2.1.2.1
  refine mjZ_y rfl rfl 79 _ _ _ _ ty ?_
  refine (bn_t (ne 2 (by decide)) (bn_f (ne 6 (by decide)) (bn_t (ne 7 (by decide)) (bk_f rfl (bk_t rfl (bn_f (ne 13 (by decide)) (bn_f (ne 44 (by decide)) (bn_f (ne 49 (by decide)) (bn_f (ne 90 (by decide)) (bn_t (ne 21 (by decide)) (bn_t (ne 19 (by decide)) (bn_f (ne 14 (by decide)) (bn_t (ne 20 (by decide)) (bn_f (ne 17 (by decide)) (bn_f (ne 18 (by decide)) (bn_f (ne 45 (by decide)) (bn_f (ne 46 (by decide)) (bn_f (ne 48 (by decide)) (bn_t (ne 81 (by decide)) (bn_t (ne 63 (by decide)) (bn_f (ne 41 (by decide)) (bn_f (ne 42 (by decide)) (bn_f (ne 92 (by decide)) (bn_f (fun n => n rfl) (And.intro rfl (And.intro rfl (fun ty' => (And.intro rfl (And.intro (fun c => ?_) (fun c => ?_))))))))))))))))))))))))))))))
  · have f0 : Fr [f_n1] [] u (u.1, vp_updL u.2.1 f_n1 1, u.2.2) := Fr.l (by decide)
    have go : ∀ u1 : mjS, mjTY u1 → Fr [f_n1] [] u u1 → mjY mjPP (mjQQ Y) (d + 7) 72 207 [some (.ref 0), some (.int (nI 93))] [] u1 (opK u ws ks l (ppR ws).isSome (fun t => ∀ q, ppR ws = some q → t.2.1 f_n1 = q)) := by
      intro u1 tu1 f1
      have w1 := h.fr f1 (by decide) (by decide)
      have hl : 2 < ws.length := by
        have c : nI 3 ≤ u.1 f_words := c
        rw [h.2.1.1] at c
        have := (nI_leI (by decide) (by omega)).mp c; omega
      have g2 : ws[2]? = some ws[2] := List.getElem?_eq_getElem hl
      have eP : ppR ws = srR false ws[2] := by unfold ppR; rw [g2]
      rw [eP]
      generalize ws[2] = v at g2
      refine mjZ_y rfl rfl 3 _ _ _ _ tu1 ?_
      refine (And.intro (Nat.le_of_ble_eq_true rfl) (And.intro rfl (And.intro (Nat.le_of_ble_eq_true rfl) (And.intro (Nat.le_of_ble_eq_true rfl) (mjY_mono tu1 (fun q_ u2 ty2 h_ => ?_) (c_oneInteger w1 tu1 g2 (x := Int32.ofInt 2) rfl))))))
      obtain ⟨rfl, f2, w2, q2⟩ := h_
      intro _
      have f2o : Fr opFs oH u u2 := (f1.up (by decide) (by decide)).tr (f2.up (by decide) (by decide))
      cases ht : intF v with
      | none =>
        have e : srR false v = none := by unfold srR; rw [ht]; rfl
        rw [e]
        refine mjZ_y rfl rfl 1 _ _ _ _ ty2 ?_
        refine And.intro (fun c => ?_) (fun c => ?_)
        · exact absurd rfl c
        · refine mjZ_y rfl rfl 2 _ _ _ _ ty2 ?_
          refine And.intro rfl (And.intro (Or.inr ⟨rfl, Or.inl rfl⟩) ?_)
          exact ⟨rfl, f2o, w2, fun z => by cases z⟩
      | some n =>
        have e1 := q2 n ht
        have e : srR false v = if n < 0 ∨ (false = true ∧ 131071 < n) then none else some n := by unfold srR; rw [ht]; rfl
        rw [e]
        refine mjZ_y rfl rfl 1 _ _ _ _ ty2 ?_
        refine And.intro (fun c => ?_) (fun c => ?_)
        · refine mjZ_y rfl rfl 5 _ _ _ _ ty2 ?_
          refine (And.intro rfl (And.intro (fun a => ?_) (fun a => ?_)))
          · have y : ¬ (n < 0 ∨ (false = true ∧ 131071 < n)) := fun y => y.elim (fun y => Int64.not_le.mpr y (by rw [← e1]; exact (lg_cmp_ge _ _).mp a)) (fun y => by cases y.1)
            rw [if_neg y]
            refine mjZ_y rfl rfl 2 _ _ _ _ ty2 ?_
            refine And.intro rfl (And.intro (Or.inr ⟨rfl, Or.inr rfl⟩) ?_)
            exact ⟨rfl, f2o, w2, fun _ q' y => by rw [← Option.some.inj y]; exact e1⟩
          · have y : n < 0 ∨ (false = true ∧ 131071 < n) := Or.inl (by rw [← e1]; exact Int64.not_le.mp (fun y => a ((lg_cmp_ge _ _).mpr y)))
            rw [if_pos y]
            refine mjZ_y rfl rfl 2 _ _ _ _ ty2 ?_
            refine (And.intro (Nat.le_of_ble_eq_true rfl) (And.intro rfl (And.intro (Nat.le_of_ble_eq_true rfl) (And.intro (Nat.le_of_ble_eq_true rfl) (mjY_mono ty2 (fun q_ u3 ty3 h_ => ?_) (w_outOfRange w2 ty2))))))
            obtain ⟨rfl, w3, f3⟩ := h_
            intro _
            refine mjZ_y rfl rfl 1 _ _ _ _ ty3 ?_
            refine And.intro rfl (And.intro (Or.inr ⟨rfl, Or.inl rfl⟩) ?_)
            exact ⟨rfl, f2o.tr f3.op, w3, fun z => by cases z⟩
        · exact absurd (show ¬ (1 : Int32) = 0 by decide) c
    exact go _ ty' f0
  · have hl : ws.length ≤ 2 := by
      refine Nat.le_of_not_lt (fun y => c (show nI 3 ≤ u.1 f_words by rw [h.2.1.1]; exact nI_le y (by omega)))
    have eP : ppR ws = some 1 := by unfold ppR; rw [List.getElem?_eq_none hl]
    rw [eP]
    refine mjZ_y rfl rfl 2 _ _ _ _ ty' ?_
    refine And.intro rfl (And.intro (Or.inr ⟨rfl, Or.inr rfl⟩) ?_)
    have f0 : Fr [f_n1] [] u (u.1, vp_updL u.2.1 f_n1 1, u.2.2) := Fr.l (by decide)
    exact ⟨rfl, f0.up (by decide) (by decide), h.fr f0 (by decide) (by decide), fun _ q y => by rw [← Option.some.inj y]; exact pk_uLs (f := u.2.1) (k := f_n1) (x := 1)⟩
set_option maxRecDepth 100000 in
theorem c_opt_47 {u : mjS} {ws : List (List Int32)} {ks : List KR} {l : List Int32} (h : Wd u ws ks l) (ty : mjTY u) (z : flZ u) {v : List Int32} (h2 : ws[2]? = some v) : mjY mjPP (mjQQ Y) (d + 7) 72 3 [some (.ref 0), some (.int (nI 47))] [] u (opK u ws ks l (decide (isF v 72865299780165 = 1 ∨ isF v 280352802130 = 1)) (fun _ => True)) := by
  have ne : ∀ c : Nat, c < 128 ∧ c ≠ 47 → ¬ nI 47 = nI c := fun c hc y => hc.2 ((nI_eq (by decide) (by omega)).mp y).symm
  have good : (isF v 72865299780165 = 1 ∨ isF v 280352802130 = 1) → mjY mjPP (mjQQ Y) (d + 7) 72 239 [some (.ref 0), some (.int (nI 47))] [] u (opK u ws ks l (decide (isF v 72865299780165 = 1 ∨ isF v 280352802130 = 1)) (fun _ => True)) := by
    intro y
    rw [decide_eq_true y]
    refine mjZ_y rfl rfl 26 _ _ _ _ ty ?_
    refine (bn_t (ne 50 (by decide)) (bn_t (ne 78 (by decide)) (bn_f (ne 85 (by decide)) (bn_t (ne 86 (by decide)) (bn_t (ne 87 (by decide)) (bn_t (ne 88 (by decide)) (bn_f (ne 89 (by decide)) (bn_t (ne 91 (by decide)) (And.intro rfl (And.intro (Or.inr ⟨rfl, Or.inr rfl⟩) ?_))))))))))
    exact opK.t Fr.rf h trivial
  refine mjZ_y rfl rfl 79 _ _ _ _ ty ?_
  refine (bn_t (ne 2 (by decide)) (bn_f (ne 6 (by decide)) (bn_t (ne 7 (by decide)) (bk_f rfl (bk_t rfl (bn_f (ne 13 (by decide)) (bn_f (ne 44 (by decide)) (bn_f (ne 49 (by decide)) (bn_f (ne 90 (by decide)) (bn_t (ne 21 (by decide)) (bn_t (ne 19 (by decide)) (bn_f (ne 14 (by decide)) (bn_t (ne 20 (by decide)) (bn_f (ne 17 (by decide)) (bn_f (ne 18 (by decide)) (bn_f (ne 45 (by decide)) (bn_f (ne 46 (by decide)) (bn_f (ne 48 (by decide)) (bn_t (ne 81 (by decide)) (bn_t (ne 63 (by decide)) (bn_f (ne 41 (by decide)) (bn_f (ne 42 (by decide)) (bn_f (ne 92 (by decide)) (bn_t (ne 93 (by decide)) (bn_f (fun n => n rfl) (And.intro (Nat.le_of_ble_eq_true rfl) (And.intro rfl (And.intro (Nat.le_of_ble_eq_true rfl) (And.intro (Nat.le_of_ble_eq_true rfl) (mjY_mono ty (fun q_ u2 ty2 h_ => ?_) (w_is h ty h2 (x := Int32.ofInt 2) rfl 72865299780165)))))))))))))))))))))))))))))))
  obtain ⟨rfl, rfl⟩ := h_
  intro _
  refine mjZ_y rfl rfl 1 _ _ _ _ ty2 ?_
  refine And.intro (fun c => ?_) (fun c => ?_)
  · exact good (Or.inl (isF_n c))
  · refine mjZ_y rfl rfl 4 _ _ _ _ ty2 ?_
    refine (And.intro (Nat.le_of_ble_eq_true rfl) (And.intro rfl (And.intro (Nat.le_of_ble_eq_true rfl) (And.intro (Nat.le_of_ble_eq_true rfl) (mjY_mono ty2 (fun q_ u3 ty3 h_ => ?_) (w_is h ty2 h2 (x := Int32.ofInt 2) rfl 280352802130))))))
    obtain ⟨rfl, rfl⟩ := h_
    intro _
    refine mjZ_y rfl rfl 1 _ _ _ _ ty3 ?_
    refine And.intro (fun b => ?_) (fun b => ?_)
    · exact good (Or.inr (isF_n b))
    · rw [decide_eq_false (p := isF v 72865299780165 = 1 ∨ isF v 280352802130 = 1) (fun y => y.elim (isF_ne (Decidable.of_not_not c)) (isF_ne (Decidable.of_not_not b)))]
      refine mjZ_y rfl rfl 2 _ _ _ _ ty3 ?_
      refine (And.intro (Nat.le_of_ble_eq_true rfl) (And.intro rfl (And.intro (Nat.le_of_ble_eq_true rfl) (And.intro (Nat.le_of_ble_eq_true rfl) (mjY_mono ty3 (fun q_ u4 ty4 h_ => ?_) (w_syntax h ty3))))))
      obtain ⟨rfl, w4, f4⟩ := h_
      intro _
      refine mjZ_y rfl rfl 1 _ _ _ _ ty4 ?_
      refine And.intro rfl (And.intro (Or.inr ⟨rfl, Or.inl rfl⟩) ?_)
      exact opK.f f4.op w4
set_option maxRecDepth 100000 in
theorem c_opt_50 {u : mjS} {ws : List (List Int32)} {ks : List KR} {l : List Int32} (h : Wd u ws ks l) (ty : mjTY u) (z : flZ u) {v w : List Int32} (h3 : ws[3]? = some v) (h4 : ws[4]? = some w) : mjY mjPP (mjQQ Y) (d + 7) 72 3 [some (.ref 0), some (.int (nI 50))] [] u (opK u ws ks l (siD v && siD w) (fun _ => True)) := by
  have ne : ∀ c : Nat, c < 128 ∧ c ≠ 50 → ¬ nI 50 = nI c := fun c hc y => hc.2 ((nI_eq (by decide) (by omega)).mp y).symm
  have bad : (siD v && siD w) = false → mjY mjPP (mjQQ Y) (d + 7) 72 250 [some (.ref 0), some (.int (nI 50))] [] u (opK u ws ks l (siD v && siD w) (fun _ => True)) := by
    intro y
    rw [y]
    refine mjZ_y rfl rfl 2 _ _ _ _ ty ?_
    refine (And.intro (Nat.le_of_ble_eq_true rfl) (And.intro rfl (And.intro (Nat.le_of_ble_eq_true rfl) (And.intro (Nat.le_of_ble_eq_true rfl) (mjY_mono ty (fun q_ u4 ty4 h_ => ?_) (w_syntax h ty))))))
    obtain ⟨rfl, w4, f4⟩ := h_
    intro _
    refine mjZ_y rfl rfl 1 _ _ _ _ ty4 ?_
    refine And.intro rfl (And.intro (Or.inr ⟨rfl, Or.inl rfl⟩) ?_)
    exact opK.f f4.op w4
  refine mjZ_y rfl rfl 81 _ _ _ _ ty ?_
  refine (bn_t (ne 2 (by decide)) (bn_f (ne 6 (by decide)) (bn_t (ne 7 (by decide)) (bk_f rfl (bk_t rfl (bn_f (ne 13 (by decide)) (bn_f (ne 44 (by decide)) (bn_f (ne 49 (by decide)) (bn_f (ne 90 (by decide)) (bn_t (ne 21 (by decide)) (bn_t (ne 19 (by decide)) (bn_f (ne 14 (by decide)) (bn_t (ne 20 (by decide)) (bn_f (ne 17 (by decide)) (bn_f (ne 18 (by decide)) (bn_f (ne 45 (by decide)) (bn_f (ne 46 (by decide)) (bn_f (ne 48 (by decide)) (bn_t (ne 81 (by decide)) (bn_t (ne 63 (by decide)) (bn_f (ne 41 (by decide)) (bn_f (ne 42 (by decide)) (bn_f (ne 92 (by decide)) (bn_t (ne 93 (by decide)) (bn_t (ne 47 (by decide)) (bn_f (fun n => n rfl) (And.intro (Nat.le_of_ble_eq_true rfl) (And.intro rfl (And.intro (Nat.le_of_ble_eq_true rfl) (And.intro (Nat.le_of_ble_eq_true rfl) (mjY_mono ty (fun q_ u2 ty2 h_ => ?_) (c_isSide h ty h3 (x := Int32.ofInt 3) rfl))))))))))))))))))))))))))))))))
  obtain ⟨rfl, rfl⟩ := h_
  intro _
  refine mjZ_y rfl rfl 1 _ _ _ _ ty2 ?_
  refine And.intro (fun c => ?_) (fun c => ?_)
  · exact bad (by rw [show siD v = false from bI_0.mp c]; rfl)
  · have c : siD v = true := by
      cases hs : siD v with
      | true => rfl
      | false => exact absurd (show bI (siD v) = 0 by rw [hs]; rfl) c
    refine mjZ_y rfl rfl 3 _ _ _ _ ty2 ?_
    refine (And.intro (Nat.le_of_ble_eq_true rfl) (And.intro rfl (And.intro (Nat.le_of_ble_eq_true rfl) (And.intro (Nat.le_of_ble_eq_true rfl) (mjY_mono ty2 (fun q_ u3 ty3 h_ => ?_) (c_isSide h ty2 h4 (x := Int32.ofInt 4) rfl))))))
    obtain ⟨rfl, rfl⟩ := h_
    intro _
    refine mjZ_y rfl rfl 1 _ _ _ _ ty3 ?_
    refine And.intro (fun b => ?_) (fun b => ?_)
    · have b : siD w = true := by
        cases hs : siD w with
        | true => rfl
        | false => exact absurd (show bI (siD w) = 0 by rw [hs]; rfl) b
      rw [c, b]
      refine mjZ_y rfl rfl 23 _ _ _ _ ty3 ?_
      refine (bn_t (ne 78 (by decide)) (bn_f (ne 85 (by decide)) (bn_t (ne 86 (by decide)) (bn_t (ne 87 (by decide)) (bn_t (ne 88 (by decide)) (bn_f (ne 89 (by decide)) (bn_t (ne 91 (by decide)) (And.intro rfl (And.intro (Or.inr ⟨rfl, Or.inr rfl⟩) ?_)))))))))
      exact opK.t Fr.rf h trivial
    · exact bad (by rw [c, show siD w = false from bI_0.mp (Decidable.of_not_not b)]; rfl)
set_option maxRecDepth 100000 in
theorem c_opt_21 {u : mjS} {ws : List (List Int32)} {ks : List KR} {l : List Int32} (h : Wd u ws ks l) (ty : mjTY u) (z : flZ u)  : mjY mjPP (mjQQ Y) (d + 7) 72 3 [some (.ref 0), some (.int (nI 21))] [] u (fun r v => ∃ b : Bool, opK u ws ks l b (fun _ => True) r v) := by
  have ne : ∀ c : Nat, c < 128 ∧ c ≠ 21 → ¬ nI 21 = nI c := fun c hc y => hc.2 ((nI_eq (by decide) (by omega)).mp y).symm
  have h1024 := h.2.1.2.1
  refine mjZ_y rfl rfl 31 _ _ _ _ ty ?_
  refine (bn_t (ne 2 (by decide)) (bn_f (ne 6 (by decide)) (bn_t (ne 7 (by decide)) (bk_t rfl (bn_f (ne 13 (by decide)) (bn_f (ne 44 (by decide)) (bn_f (ne 49 (by decide)) (bn_f (ne 90 (by decide)) (bn_f (fun n => n rfl) (And.intro rfl (And.intro (fun c => ?_) (fun c => ?_))))))))))))
  · refine mjZ_y rfl rfl 71 _ _ _ _ ty ?_
    refine (bn_t (ne 19 (by decide)) (bn_f (ne 14 (by decide)) (bn_t (ne 20 (by decide)) (bn_f (ne 17 (by decide)) (bn_f (ne 18 (by decide)) (bn_f (ne 45 (by decide)) (bn_f (ne 46 (by decide)) (bn_f (ne 48 (by decide)) (bn_t (ne 81 (by decide)) (bn_t (ne 63 (by decide)) (bn_f (ne 41 (by decide)) (bn_f (ne 42 (by decide)) (bn_f (ne 92 (by decide)) (bn_t (ne 93 (by decide)) (bn_t (ne 47 (by decide)) (bn_t (ne 50 (by decide)) (bn_t (ne 78 (by decide)) (bn_f (ne 85 (by decide)) (bn_t (ne 86 (by decide)) (bn_t (ne 87 (by decide)) (bn_t (ne 88 (by decide)) (bn_f (ne 89 (by decide)) (bn_t (ne 91 (by decide)) (And.intro rfl (And.intro (Or.inr ⟨rfl, Or.inr rfl⟩) ?_)))))))))))))))))))))))))
    exact ⟨true, opK.t Fr.rf h trivial⟩
  · have c : ws.length = 4 := by
      have c : u.1 f_words = nI 4 := Decidable.of_not_not c
      rw [h.2.1.1] at c; exact (nI_eq (by omega) (by decide)).mp c
    have g2 : ws[2]? = some ws[2] := List.getElem?_eq_getElem (by omega)
    have g3 : ws[3]? = some ws[3] := List.getElem?_eq_getElem (by omega)
    refine mjZ_y rfl rfl 4 _ _ _ _ ty ?_
    refine (And.intro (Nat.le_of_ble_eq_true rfl) (And.intro rfl (And.intro (Nat.le_of_ble_eq_true rfl) (And.intro (Nat.le_of_ble_eq_true rfl) (mjY_mono ty (fun q_ u2 ty2 h_ => ?_) (c_twoIntegers h ty g2 g3 (x := Int32.ofInt 2) (y := Int32.ofInt 3) rfl rfl))))))
    obtain ⟨rfl, f2, w2, q2⟩ := h_
    intro _
    refine mjZ_y rfl rfl 1 _ _ _ _ ty2 ?_
    refine And.intro rfl (And.intro (Or.inr ⟨rfl, bI_01 _⟩) ?_)
    exact ⟨_, rfl, f2.up (by decide) (by decide), w2, fun _ => trivial⟩
set_option maxRecDepth 100000 in
theorem c_opt_85 {u : mjS} {ws : List (List Int32)} {ks : List KR} {l : List Int32} (h : Wd u ws ks l) (ty : mjTY u) (z : flZ u) (hw : 4 ≤ ws.length) : mjY mjPP (mjQQ Y) (d + 7) 72 3 [some (.ref 0), some (.int (nI 85))] [] u (fun r v => ∃ b : Bool, opK u ws ks l b (fun _ => True) r v) := by
  have ne : ∀ c : Nat, c < 128 ∧ c ≠ 85 → ¬ nI 85 = nI c := fun c hc y => hc.2 ((nI_eq (by decide) (by omega)).mp y).symm
  refine mjZ_y rfl rfl 87 _ _ _ _ ty ?_
  refine (bn_t (ne 2 (by decide)) (bn_f (ne 6 (by decide)) (bn_t (ne 7 (by decide)) (bk_f rfl (bk_t rfl (bn_f (ne 13 (by decide)) (bn_f (ne 44 (by decide)) (bn_f (ne 49 (by decide)) (bn_f (ne 90 (by decide)) (bn_t (ne 21 (by decide)) (bn_t (ne 19 (by decide)) (bn_f (ne 14 (by decide)) (bn_t (ne 20 (by decide)) (bn_f (ne 17 (by decide)) (bn_f (ne 18 (by decide)) (bn_f (ne 45 (by decide)) (bn_f (ne 46 (by decide)) (bn_f (ne 48 (by decide)) (bn_t (ne 81 (by decide)) (bn_t (ne 63 (by decide)) (bn_f (ne 41 (by decide)) (bn_f (ne 42 (by decide)) (bn_f (ne 92 (by decide)) (bn_t (ne 93 (by decide)) (bn_t (ne 47 (by decide)) (bn_t (ne 50 (by decide)) (bn_t (ne 78 (by decide)) (bn_t rfl (And.intro (Nat.le_of_ble_eq_true rfl) (And.intro rfl (And.intro (Nat.le_of_ble_eq_true rfl) (And.intro (Nat.le_of_ble_eq_true rfl) (mjY_mono ty (fun q_ u2 ty2 h_ => ?_) (c_optionsRange h ty hw (z _ (by decide)) _))))))))))))))))))))))))))))))))))
  obtain ⟨b, rfl, f2, w2, -⟩ := h_
  intro _
  refine mjZ_y rfl rfl 1 _ _ _ _ ty2 ?_
  refine And.intro rfl (And.intro (Or.inr ⟨rfl, bI_01 _⟩) ?_)
  exact ⟨b, rfl, f2.up (by decide) (by decide), w2, fun _ => trivial⟩
set_option maxRecDepth 100000 in
theorem c_opt_86 {u : mjS} {ws : List (List Int32)} {ks : List KR} {l : List Int32} (h : Wd u ws ks l) (ty : mjTY u) (z : flZ u) (hw : 4 ≤ ws.length) : mjY mjPP (mjQQ Y) (d + 7) 72 3 [some (.ref 0), some (.int (nI 86))] [] u (fun r v => ∃ b : Bool, opK u ws ks l b (fun _ => True) r v) := by
  have ne : ∀ c : Nat, c < 128 ∧ c ≠ 86 → ¬ nI 86 = nI c := fun c hc y => hc.2 ((nI_eq (by decide) (by omega)).mp y).symm
  refine mjZ_y rfl rfl 90 _ _ _ _ ty ?_
  refine (bn_t (ne 2 (by decide)) (bn_f (ne 6 (by decide)) (bn_t (ne 7 (by decide)) (bk_f rfl (bk_t rfl (bn_f (ne 13 (by decide)) (bn_f (ne 44 (by decide)) (bn_f (ne 49 (by decide)) (bn_f (ne 90 (by decide)) (bn_t (ne 21 (by decide)) (bn_t (ne 19 (by decide)) (bn_f (ne 14 (by decide)) (bn_t (ne 20 (by decide)) (bn_f (ne 17 (by decide)) (bn_f (ne 18 (by decide)) (bn_f (ne 45 (by decide)) (bn_f (ne 46 (by decide)) (bn_f (ne 48 (by decide)) (bn_t (ne 81 (by decide)) (bn_t (ne 63 (by decide)) (bn_f (ne 41 (by decide)) (bn_f (ne 42 (by decide)) (bn_f (ne 92 (by decide)) (bn_t (ne 93 (by decide)) (bn_t (ne 47 (by decide)) (bn_t (ne 50 (by decide)) (bn_t (ne 78 (by decide)) (bn_f (ne 85 (by decide)) (bn_f (fun n => n rfl) (And.intro (Nat.le_of_ble_eq_true rfl) (And.intro rfl (And.intro (Nat.le_of_ble_eq_true rfl) (And.intro (Nat.le_of_ble_eq_true rfl) (mjY_mono ty (fun q_ u2 ty2 h_ => ?_) (c_optionsRange h ty hw (z _ (by decide)) _)))))))))))))))))))))))))))))))))))
  obtain ⟨b, rfl, f2, w2, -⟩ := h_
  intro _
  refine mjZ_y rfl rfl 1 _ _ _ _ ty2 ?_
  refine And.intro rfl (And.intro (Or.inr ⟨rfl, bI_01 _⟩) ?_)
  exact ⟨b, rfl, f2.up (by decide) (by decide), w2, fun _ => trivial⟩
set_option maxRecDepth 100000 in
theorem c_opt_87 {u : mjS} {ws : List (List Int32)} {ks : List KR} {l : List Int32} (h : Wd u ws ks l) (ty : mjTY u) (z : flZ u) (hw : 4 ≤ ws.length) : mjY mjPP (mjQQ Y) (d + 7) 72 3 [some (.ref 0), some (.int (nI 87))] [] u (fun r v => ∃ b : Bool, opK u ws ks l b (fun _ => True) r v) := by
  have ne : ∀ c : Nat, c < 128 ∧ c ≠ 87 → ¬ nI 87 = nI c := fun c hc y => hc.2 ((nI_eq (by decide) (by omega)).mp y).symm
  have no : ∀ v : mjS, mjTY v → Fr opFs oH u v → Wd v ws ks l → mjY mjPP (mjQQ Y) (d + 7) 72 286 [some (.ref 0), some (.int (nI 87))] [] v (fun r v => ∃ b : Bool, opK u ws ks l b (fun _ => True) r v) := by
    intro v tv fv wv
    refine mjZ_y rfl rfl 2 _ _ _ _ tv ?_
    refine And.intro rfl (And.intro (Or.inr ⟨rfl, Or.inl rfl⟩) ?_)
    exact ⟨false, opK.f fv wv⟩
  have g2 : ws[2]? = some ws[2] := List.getElem?_eq_getElem (by omega)
  have g3 : ws[3]? = some ws[3] := List.getElem?_eq_getElem (by omega)
  refine mjZ_y rfl rfl 93 _ _ _ _ ty ?_
  refine (bn_t (ne 2 (by decide)) (bn_f (ne 6 (by decide)) (bn_t (ne 7 (by decide)) (bk_f rfl (bk_t rfl (bn_f (ne 13 (by decide)) (bn_f (ne 44 (by decide)) (bn_f (ne 49 (by decide)) (bn_f (ne 90 (by decide)) (bn_t (ne 21 (by decide)) (bn_t (ne 19 (by decide)) (bn_f (ne 14 (by decide)) (bn_t (ne 20 (by decide)) (bn_f (ne 17 (by decide)) (bn_f (ne 18 (by decide)) (bn_f (ne 45 (by decide)) (bn_f (ne 46 (by decide)) (bn_f (ne 48 (by decide)) (bn_t (ne 81 (by decide)) (bn_t (ne 63 (by decide)) (bn_f (ne 41 (by decide)) (bn_f (ne 42 (by decide)) (bn_f (ne 92 (by decide)) (bn_t (ne 93 (by decide)) (bn_t (ne 47 (by decide)) (bn_t (ne 50 (by decide)) (bn_t (ne 78 (by decide)) (bn_f (ne 85 (by decide)) (bn_t (ne 86 (by decide)) (bn_f (fun n => n rfl) (And.intro (Nat.le_of_ble_eq_true rfl) (And.intro rfl (And.intro (Nat.le_of_ble_eq_true rfl) (And.intro (Nat.le_of_ble_eq_true rfl) (mjY_mono ty (fun q_ u2 ty2 h_ => ?_) (c_optionsRange h ty hw (z _ (by decide)) _))))))))))))))))))))))))))))))))))))
  obtain ⟨b, rfl, f2, w2, L2⟩ := h_
  intro _
  have f2o : Fr opFs oH u u2 := f2.up (by decide) (by decide)
  refine mjZ_y rfl rfl 1 _ _ _ _ ty2 ?_
  refine And.intro (fun c => ?_) (fun c => ?_)
  · exact no u2 ty2 f2o w2
  · have c : b = true := by
      cases b with
      | true => rfl
      | false => exact absurd rfl c
    have L := L2 c (by decide)
    refine mjZ_y rfl rfl 4 _ _ _ _ ty2 ?_
    refine (And.intro (Nat.le_of_ble_eq_true rfl) (And.intro rfl (And.intro (Nat.le_of_ble_eq_true rfl) (And.intro (Nat.le_of_ble_eq_true rfl) (mjY_mono ty2 (fun q_ u3 ty3 h_ => ?_) (c_bounds23s w2 ty2 g2 g3))))))
    obtain ⟨b3, rfl, f3, w3⟩ := h_
    intro _
    have f3o : Fr opFs oH u u3 := f2o.tr (f3.up (by decide) (by decide))
    refine mjZ_y rfl rfl 1 _ _ _ _ ty3 ?_
    refine And.intro (fun e => ?_) (fun e => ?_)
    · exact no u3 ty3 f3o w3
    · refine mjZ_y rfl rfl 2 _ _ _ _ ty3 ?_
      refine (And.intro (Nat.le_of_ble_eq_true rfl) (And.intro rfl (And.intro (Nat.le_of_ble_eq_true rfl) (And.intro (Nat.le_of_ble_eq_true rfl) (mjY_mono ty3 (fun q_ u4 ty4 h_ => ?_) (c_limitNumbers w3 ty3 (by rw [f3.1 _ (by decide), f3.1 _ (by decide)]; exact L)))))))
      obtain ⟨b4, rfl, f4, w4⟩ := h_
      intro _
      have f4o : Fr opFs oH u u4 := f3o.tr (f4.up (by decide) (by decide))
      refine mjZ_y rfl rfl 1 _ _ _ _ ty4 ?_
      refine And.intro (fun g => ?_) (fun g => ?_)
      · exact no u4 ty4 f4o w4
      · refine mjZ_y rfl rfl 3 _ _ _ _ ty4 ?_
        refine And.intro rfl (And.intro (Or.inr ⟨rfl, Or.inr rfl⟩) ?_)
        exact ⟨true, opK.t f4o w4 trivial⟩
set_option maxRecDepth 100000 in
theorem c_opt_88 {u : mjS} {ws : List (List Int32)} {ks : List KR} {l : List Int32} (h : Wd u ws ks l) (ty : mjTY u) (z : flZ u) (hw : 4 ≤ ws.length) : mjY mjPP (mjQQ Y) (d + 7) 72 3 [some (.ref 0), some (.int (nI 88))] [] u (fun r v => ∃ b : Bool, opK u ws ks l b (fun _ => True) r v) := by
  have ne : ∀ c : Nat, c < 128 ∧ c ≠ 88 → ¬ nI 88 = nI c := fun c hc y => hc.2 ((nI_eq (by decide) (by omega)).mp y).symm
  have no : ∀ v : mjS, mjTY v → Fr opFs oH u v → Wd v ws ks l → mjY mjPP (mjQQ Y) (d + 7) 72 305 [some (.ref 0), some (.int (nI 88))] [] v (fun r v => ∃ b : Bool, opK u ws ks l b (fun _ => True) r v) := by
    intro v tv fv wv
    refine mjZ_y rfl rfl 2 _ _ _ _ tv ?_
    refine And.intro rfl (And.intro (Or.inr ⟨rfl, Or.inl rfl⟩) ?_)
    exact ⟨false, opK.f fv wv⟩
  have g2 : ws[2]? = some ws[2] := List.getElem?_eq_getElem (by omega)
  have g3 : ws[3]? = some ws[3] := List.getElem?_eq_getElem (by omega)
  refine mjZ_y rfl rfl 96 _ _ _ _ ty ?_
  refine (bn_t (ne 2 (by decide)) (bn_f (ne 6 (by decide)) (bn_t (ne 7 (by decide)) (bk_f rfl (bk_t rfl (bn_f (ne 13 (by decide)) (bn_f (ne 44 (by decide)) (bn_f (ne 49 (by decide)) (bn_f (ne 90 (by decide)) (bn_t (ne 21 (by decide)) (bn_t (ne 19 (by decide)) (bn_f (ne 14 (by decide)) (bn_t (ne 20 (by decide)) (bn_f (ne 17 (by decide)) (bn_f (ne 18 (by decide)) (bn_f (ne 45 (by decide)) (bn_f (ne 46 (by decide)) (bn_f (ne 48 (by decide)) (bn_t (ne 81 (by decide)) (bn_t (ne 63 (by decide)) (bn_f (ne 41 (by decide)) (bn_f (ne 42 (by decide)) (bn_f (ne 92 (by decide)) (bn_t (ne 93 (by decide)) (bn_t (ne 47 (by decide)) (bn_t (ne 50 (by decide)) (bn_t (ne 78 (by decide)) (bn_f (ne 85 (by decide)) (bn_t (ne 86 (by decide)) (bn_t (ne 87 (by decide)) (bn_f (fun n => n rfl) (And.intro (Nat.le_of_ble_eq_true rfl) (And.intro rfl (And.intro (Nat.le_of_ble_eq_true rfl) (And.intro (Nat.le_of_ble_eq_true rfl) (mjY_mono ty (fun q_ u2 ty2 h_ => ?_) (c_optionsRange h ty hw (z _ (by decide)) _)))))))))))))))))))))))))))))))))))))
  obtain ⟨b, rfl, f2, w2, L2⟩ := h_
  intro _
  have f2o : Fr opFs oH u u2 := f2.up (by decide) (by decide)
  refine mjZ_y rfl rfl 1 _ _ _ _ ty2 ?_
  refine And.intro (fun c => ?_) (fun c => ?_)
  · exact no u2 ty2 f2o w2
  · have c : b = true := by
      cases b with
      | true => rfl
      | false => exact absurd rfl c
    have L := L2 c (by decide)
    refine mjZ_y rfl rfl 4 _ _ _ _ ty2 ?_
    refine (And.intro (Nat.le_of_ble_eq_true rfl) (And.intro rfl (And.intro (Nat.le_of_ble_eq_true rfl) (And.intro (Nat.le_of_ble_eq_true rfl) (mjY_mono ty2 (fun q_ u3 ty3 h_ => ?_) (c_bounds32 w2 ty2 g2 g3))))))
    obtain ⟨b3, rfl, f3, w3⟩ := h_
    intro _
    have f3o : Fr opFs oH u u3 := f2o.tr (f3.up (by decide) (by decide))
    refine mjZ_y rfl rfl 1 _ _ _ _ ty3 ?_
    refine And.intro (fun e => ?_) (fun e => ?_)
    · exact no u3 ty3 f3o w3
    · refine mjZ_y rfl rfl 2 _ _ _ _ ty3 ?_
      refine (And.intro (Nat.le_of_ble_eq_true rfl) (And.intro rfl (And.intro (Nat.le_of_ble_eq_true rfl) (And.intro (Nat.le_of_ble_eq_true rfl) (mjY_mono ty3 (fun q_ u4 ty4 h_ => ?_) (c_limitNumbers w3 ty3 (by rw [f3.1 _ (by decide), f3.1 _ (by decide)]; exact L)))))))
      obtain ⟨b4, rfl, f4, w4⟩ := h_
      intro _
      have f4o : Fr opFs oH u u4 := f3o.tr (f4.up (by decide) (by decide))
      refine mjZ_y rfl rfl 1 _ _ _ _ ty4 ?_
      refine And.intro (fun g => ?_) (fun g => ?_)
      · exact no u4 ty4 f4o w4
      · refine mjZ_y rfl rfl 3 _ _ _ _ ty4 ?_
        refine And.intro rfl (And.intro (Or.inr ⟨rfl, Or.inr rfl⟩) ?_)
        exact ⟨true, opK.t f4o w4 trivial⟩
end OPTY