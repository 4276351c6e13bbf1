/-! options: the others. -/
section OPTZ
variable {Y : Nat → MethodName × ByteArray} {d : Nat}
def sbR (v w : List Int32) : Option (Int64 × Int64) := (twF v w).bind (fun q => if q.1 < 0 ∨ 131071 < q.1 ∨ q.2 < 0 ∨ 1 < q.2 then none else some q)
def srR (top : Bool) (v : List Int32) : Option Int64 := (intF v).bind (fun n => if n < 0 ∨ (top = true ∧ 131071 < n) then none else some n)
def ppR (ws : List (List Int32)) : Option Int64 := match ws[2]? with
  | none => some 1
  | some v => srR false v
set_option maxRecDepth 100000 in
theorem c_opt_6 {u : mjS} {ws : List (List Int32)} {ks : List KR} {l : List Int32} (h : Wd u ws ks l) (ty : mjTY u) (z : flZ u) {v : List Int32} (h2 : ws[2]? = some v) : mjY mjPP (mjQQ Y) (d + 7) 72 3 [some (.ref 0), some (.int (nI 6))] [] u (opK u ws ks l (tiR true 0 (u.2.1 f_now0) v).isSome (fun t => ∀ q, tiR true 0 (u.2.1 f_now0) v = some q → t.2.1 f_time = q ∧ t.1 f_timed = 1 ∧ ∀ k ∈ o4, t.1 k = 0)) := by
  have ne : ∀ c : Nat, c < 128 ∧ c ≠ 6 → ¬ nI 6 = nI c := fun c hc y => hc.2 ((nI_eq (by decide) (by omega)).mp y).symm
  refine mjZ_y rfl rfl 9 _ _ _ _ ty ?_
  refine (bn_t (ne 2 (by decide)) (bn_t rfl (And.intro (Nat.le_of_ble_eq_true rfl) (And.intro rfl (And.intro (Nat.le_of_ble_eq_true rfl) (And.intro (Nat.le_of_ble_eq_true rfl) (mjY_mono ty (fun q_ u2 ty2 h_ => ?_) (w_integer h ty h2 (x := Int32.ofInt 2) rfl))))))))
  obtain ⟨w2, f2, hz⟩ := h_
  intro _
  have f2o : Fr opFs oH u u2 := f2.up (by decide) (by decide)
  rcases hz with ⟨n, hz, rfl, en⟩ | ⟨hz, rfl⟩
  · have e : tiR true 0 (u.2.1 f_now0) v = if n < 1 ∨ tmB n (u.2.1 f_now0) 0 = false then none else some (tmV n (u.2.1 f_now0) 0) := by
      unfold tiR; rw [hz]; show (if (true = true ∧ n < 1) ∨ _ then _ else _) = _
      by_cases c : n < 1 ∨ tmB n (u.2.1 f_now0) 0 = false
      · rw [if_pos (c.imp (fun y => ⟨rfl, y⟩) id), if_pos c]
      · rw [if_neg (fun y => c (y.imp (fun y => y.2) id)), if_neg c]
    rw [e]
    have bad : ∀ u3 : mjS, mjTY u3 → Fr opFs oH u u3 → Wd u3 ws ks l → (n < 1 ∨ tmB n (u.2.1 f_now0) 0 = false) → mjY mjPP (mjQQ Y) (d + 7) 72 36 [some (.ref 0), some (.int (nI 6))] [] u3 (opK u ws ks l (if n < 1 ∨ tmB n (u.2.1 f_now0) 0 = false then none else some (tmV n (u.2.1 f_now0) 0)).isSome (fun t => ∀ q, (if n < 1 ∨ tmB n (u.2.1 f_now0) 0 = false then none else some (tmV n (u.2.1 f_now0) 0)) = some q → t.2.1 f_time = q ∧ t.1 f_timed = 1 ∧ ∀ k ∈ o4, t.1 k = 0)) := by
      intro u3 tu3 f3 w3 y
      rw [if_pos y]
      refine mjZ_y rfl rfl 2 _ _ _ _ tu3 ?_
      refine (And.intro (Nat.le_of_ble_eq_true rfl) (And.intro rfl (And.intro (Nat.le_of_ble_eq_true rfl) (And.intro (Nat.le_of_ble_eq_true rfl) (mjY_mono tu3 (fun q_ u4 ty4 h_ => ?_) (w_badTime w3 tu3))))))
      obtain ⟨rfl, w4, f4⟩ := h_
      intro _
      refine mjZ_y rfl rfl 1 _ _ _ _ ty4 ?_
      refine And.intro rfl (And.intro (Or.inr ⟨rfl, Or.inl rfl⟩) ?_)
      exact ⟨rfl, f3.tr f4.op, w4, fun z => by cases z⟩
    refine mjZ_y rfl rfl 1 _ _ _ _ ty2 ?_
    refine And.intro (fun c => ?_) (fun c => ?_)
    · refine mjZ_y rfl rfl 5 _ _ _ _ ty2 ?_
      refine (And.intro rfl (And.intro (fun k => ?_) (fun k => ?_)))
      · exact bad u2 ty2 f2o w2 (Or.inl (by rw [← en]; exact (lg_cmp_lt _ _).mp k))
      · have k : ¬ n < 1 := fun y => k ((lg_cmp_lt _ _).mpr (by rw [show u2.2.1 74 = n from en]; exact y))
        refine mjZ_y rfl rfl 7 _ _ _ _ ty2 ?_
        refine (bn_f (fun n => n rfl) (And.intro (Nat.le_of_ble_eq_true rfl) (And.intro rfl (And.intro (Nat.le_of_ble_eq_true rfl) (And.intro (Nat.le_of_ble_eq_true rfl) (mjY_mono ty2 (fun q_ u3 ty3 h_ => ?_) (c_timeOf ty2 0 (by decide) (x1 := Int32.ofInt 0) rfl)))))))
        obtain ⟨rfl, f3, h3⟩ := h_
        intro _
        have enow : u2.2.1 f_now0 = u.2.1 f_now0 := f2.2.1 _ (by decide)
        rw [show u2.2.1 f_num = n from en, enow] at h3 ⊢
        have w3 := w2.fr f3 (by decide) (by decide)
        have f3o : Fr opFs oH u u3 := f2o.tr (f3.up (by decide) (by decide))
        refine mjZ_y rfl rfl 1 _ _ _ _ ty3 ?_
        refine And.intro (fun b => ?_) (fun b => ?_)
        · have g : tmB n (u.2.1 f_now0) 0 = true := by
            cases hb : tmB n (u.2.1 f_now0) 0 with
            | true => rfl
            | false => exact absurd (show bI (tmB n (u.2.1 f_now0) 0) = 0 by rw [hb]; rfl) b
          rw [if_neg (fun y => y.elim k (fun y => by rw [g] at y; cases y))]
          refine mjZ_y rfl rfl 5 _ _ _ _ ty3 ?_
          refine (And.intro rfl (And.intro (Or.inr ⟨rfl, Or.inr rfl⟩) (fun ty3' => And.intro rfl (And.intro (Or.inr ⟨rfl, Or.inr rfl⟩) ?_))))
          have fI : Fr [f_num, f_time] [] u u3 := (f2.up (by decide) (by decide)).tr (f3.up (by decide) (by decide))
          have f5 : Fr [f_timed] [] u3 (upd u3.1 f_timed 1, u3.2) := Fr.i (by decide)
          refine ⟨rfl, f3o.tr (f5.up (by decide) (by decide)), w3.fr f5 (by decide) (by decide), fun _ q y => ⟨(h3 g).trans (Option.some.inj y), pk_us (f := u3.1) (k := f_timed) (x := 1), fun k hk => ?_⟩⟩
          have h1 := f5.1 k ((show ∀ k ∈ o4, k ∉ [f_timed] by decide) k hk)
          have h2 := fI.1 k ((show ∀ k ∈ o4, k ∉ [f_num, f_time] by decide) k hk)
          exact (h1.trans h2).trans (z k ((show ∀ k ∈ o4, k ∈ clFs by decide) k hk))
        · exact bad u3 ty3 f3o w3 (Or.inr (bI_0.mp (Decidable.of_not_not b)))
    · exact absurd (show ¬ (1 : Int32) = 0 by decide) c
  · have e : tiR true 0 (u.2.1 f_now0) v = none := by unfold tiR; rw [hz]; rfl
    rw [e]
    refine mjZ_y rfl rfl 1 _ _ _ _ ty2 ?_
    refine And.intro (fun c => ?_) (fun c => ?_)
    · exact absurd rfl c
    · refine mjZ_y rfl rfl 2 _ _ _ _ ty2 ?_
      refine (And.intro (Nat.le_of_ble_eq_true rfl) (And.intro rfl (And.intro (Nat.le_of_ble_eq_true rfl) (And.intro (Nat.le_of_ble_eq_true rfl) (mjY_mono ty2 (fun q_ u3 ty3 h_ => ?_) (w_noInteger w2 ty2))))))
      obtain ⟨rfl, w3, f3⟩ := h_
      intro _
      refine mjZ_y rfl rfl 1 _ _ _ _ ty3 ?_
      refine And.intro rfl (And.intro (Or.inr ⟨rfl, Or.inl rfl⟩) ?_)
      exact ⟨rfl, f2o.tr f3.op, w3, fun z => by cases z⟩
set_option maxRecDepth 100000 in
theorem c_opt_7 {u : mjS} {ws : List (List Int32)} {ks : List KR} {l : List Int32} (h : Wd u ws ks l) (ty : mjTY u) (z : flZ u) {v : List Int32} (h2 : ws[2]? = some v) : mjY mjPP (mjQQ Y) (d + 7) 72 3 [some (.ref 0), some (.int (nI 7))] [] u (opK u ws ks l (tiR true 1 (u.2.1 f_now0) v).isSome (fun t => ∀ q, tiR true 1 (u.2.1 f_now0) v = some q → t.2.1 f_time = q ∧ t.1 f_timed = 1 ∧ ∀ k ∈ o4, t.1 k = 0)) := by
  have ne : ∀ c : Nat, c < 128 ∧ c ≠ 7 → ¬ nI 7 = nI c := fun c hc y => hc.2 ((nI_eq (by decide) (by omega)).mp y).symm
  refine mjZ_y rfl rfl 12 _ _ _ _ ty ?_
  refine (bn_t (ne 2 (by decide)) (bn_f (ne 6 (by decide)) (bn_f (fun n => n rfl) (And.intro (Nat.le_of_ble_eq_true rfl) (And.intro rfl (And.intro (Nat.le_of_ble_eq_true rfl) (And.intro (Nat.le_of_ble_eq_true rfl) (mjY_mono ty (fun q_ u2 ty2 h_ => ?_) (w_integer h ty h2 (x := Int32.ofInt 2) rfl)))))))))
  obtain ⟨w2, f2, hz⟩ := h_
  intro _
  have f2o : Fr opFs oH u u2 := f2.up (by decide) (by decide)
  rcases hz with ⟨n, hz, rfl, en⟩ | ⟨hz, rfl⟩
  · have e : tiR true 1 (u.2.1 f_now0) v = if n < 1 ∨ tmB n (u.2.1 f_now0) 1 = false then none else some (tmV n (u.2.1 f_now0) 1) := by
      unfold tiR; rw [hz]; show (if (true = true ∧ n < 1) ∨ _ then _ else _) = _
      by_cases c : n < 1 ∨ tmB n (u.2.1 f_now0) 1 = false
      · rw [if_pos (c.imp (fun y => ⟨rfl, y⟩) id), if_pos c]
      · rw [if_neg (fun y => c (y.imp (fun y => y.2) id)), if_neg c]
    rw [e]
    have bad : ∀ u3 : mjS, mjTY u3 → Fr opFs oH u u3 → Wd u3 ws ks l → (n < 1 ∨ tmB n (u.2.1 f_now0) 1 = false) → mjY mjPP (mjQQ Y) (d + 7) 72 36 [some (.ref 0), some (.int (nI 7))] [] u3 (opK u ws ks l (if n < 1 ∨ tmB n (u.2.1 f_now0) 1 = false then none else some (tmV n (u.2.1 f_now0) 1)).isSome (fun t => ∀ q, (if n < 1 ∨ tmB n (u.2.1 f_now0) 1 = false then none else some (tmV n (u.2.1 f_now0) 1)) = some q → t.2.1 f_time = q ∧ t.1 f_timed = 1 ∧ ∀ k ∈ o4, t.1 k = 0)) := by
      intro u3 tu3 f3 w3 y
      rw [if_pos y]
      refine mjZ_y rfl rfl 2 _ _ _ _ tu3 ?_
      refine (And.intro (Nat.le_of_ble_eq_true rfl) (And.intro rfl (And.intro (Nat.le_of_ble_eq_true rfl) (And.intro (Nat.le_of_ble_eq_true rfl) (mjY_mono tu3 (fun q_ u4 ty4 h_ => ?_) (w_badTime w3 tu3))))))
      obtain ⟨rfl, w4, f4⟩ := h_
      intro _
      refine mjZ_y rfl rfl 1 _ _ _ _ ty4 ?_
      refine And.intro rfl (And.intro (Or.inr ⟨rfl, Or.inl rfl⟩) ?_)
      exact ⟨rfl, f3.tr f4.op, w4, fun z => by cases z⟩
    refine mjZ_y rfl rfl 1 _ _ _ _ ty2 ?_
    refine And.intro (fun c => ?_) (fun c => ?_)
    · refine mjZ_y rfl rfl 5 _ _ _ _ ty2 ?_
      refine (And.intro rfl (And.intro (fun k => ?_) (fun k => ?_)))
      · exact bad u2 ty2 f2o w2 (Or.inl (by rw [← en]; exact (lg_cmp_lt _ _).mp k))
      · have k : ¬ n < 1 := fun y => k ((lg_cmp_lt _ _).mpr (by rw [show u2.2.1 74 = n from en]; exact y))
        refine mjZ_y rfl rfl 6 _ _ _ _ ty2 ?_
        refine (bn_t (ne 6 (by decide)) (And.intro (Nat.le_of_ble_eq_true rfl) (And.intro rfl (And.intro (Nat.le_of_ble_eq_true rfl) (And.intro (Nat.le_of_ble_eq_true rfl) (mjY_mono ty2 (fun q_ u3 ty3 h_ => ?_) (c_timeOf ty2 1 (by decide) (x1 := Int32.ofInt 1) rfl)))))))
        obtain ⟨rfl, f3, h3⟩ := h_
        intro _
        have enow : u2.2.1 f_now0 = u.2.1 f_now0 := f2.2.1 _ (by decide)
        rw [show u2.2.1 f_num = n from en, enow] at h3 ⊢
        have w3 := w2.fr f3 (by decide) (by decide)
        have f3o : Fr opFs oH u u3 := f2o.tr (f3.up (by decide) (by decide))
        refine mjZ_y rfl rfl 1 _ _ _ _ ty3 ?_
        refine And.intro (fun b => ?_) (fun b => ?_)
        · have g : tmB n (u.2.1 f_now0) 1 = true := by
            cases hb : tmB n (u.2.1 f_now0) 1 with
            | true => rfl
            | false => exact absurd (show bI (tmB n (u.2.1 f_now0) 1) = 0 by rw [hb]; rfl) b
          rw [if_neg (fun y => y.elim k (fun y => by rw [g] at y; cases y))]
          refine mjZ_y rfl rfl 5 _ _ _ _ ty3 ?_
          refine (And.intro rfl (And.intro (Or.inr ⟨rfl, Or.inr rfl⟩) (fun ty3' => And.intro rfl (And.intro (Or.inr ⟨rfl, Or.inr rfl⟩) ?_))))
          have fI : Fr [f_num, f_time] [] u u3 := (f2.up (by decide) (by decide)).tr (f3.up (by decide) (by decide))
          have f5 : Fr [f_timed] [] u3 (upd u3.1 f_timed 1, u3.2) := Fr.i (by decide)
          refine ⟨rfl, f3o.tr (f5.up (by decide) (by decide)), w3.fr f5 (by decide) (by decide), fun _ q y => ⟨(h3 g).trans (Option.some.inj y), pk_us (f := u3.1) (k := f_timed) (x := 1), fun k hk => ?_⟩⟩
          have h1 := f5.1 k ((show ∀ k ∈ o4, k ∉ [f_timed] by decide) k hk)
          have h2 := fI.1 k ((show ∀ k ∈ o4, k ∉ [f_num, f_time] by decide) k hk)
          exact (h1.trans h2).trans (z k ((show ∀ k ∈ o4, k ∈ clFs by decide) k hk))
        · exact bad u3 ty3 f3o w3 (Or.inr (bI_0.mp (Decidable.of_not_not b)))
    · exact absurd (show ¬ (1 : Int32) = 0 by decide) c
  · have e : tiR true 1 (u.2.1 f_now0) v = none := by unfold tiR; rw [hz]; rfl
    rw [e]
    refine mjZ_y rfl rfl 1 _ _ _ _ ty2 ?_
    refine And.intro (fun c => ?_) (fun c => ?_)
    · exact absurd rfl c
    · refine mjZ_y rfl rfl 2 _ _ _ _ ty2 ?_
      refine (And.intro (Nat.le_of_ble_eq_true rfl) (And.intro rfl (And.intro (Nat.le_of_ble_eq_true rfl) (And.intro (Nat.le_of_ble_eq_true rfl) (mjY_mono ty2 (fun q_ u3 ty3 h_ => ?_) (w_noInteger w2 ty2))))))
      obtain ⟨rfl, w3, f3⟩ := h_
      intro _
      refine mjZ_y rfl rfl 1 _ _ _ _ ty3 ?_
      refine And.intro rfl (And.intro (Or.inr ⟨rfl, Or.inl rfl⟩) ?_)
      exact ⟨rfl, f2o.tr f3.op, w3, fun z => by cases z⟩
set_option maxRecDepth 100000 in
theorem c_opt_19 {u : mjS} {ws : List (List Int32)} {ks : List KR} {l : List Int32} (h : Wd u ws ks l) (ty : mjTY u) (z : flZ u) {v w : List Int32} (h2 : ws[2]? = some v) (h3 : ws[3]? = some w) : mjY mjPP (mjQQ Y) (d + 7) 72 3 [some (.ref 0), some (.int (nI 19))] [] u (opK u ws ks l (sbR v w).isSome (fun t => ∀ q, sbR v w = some q → t.2.1 f_n1 = q.1 ∧ t.2.1 f_n2 = q.2)) := by
  have ne : ∀ c : Nat, c < 128 ∧ c ≠ 19 → ¬ nI 19 = nI c := fun c hc y => hc.2 ((nI_eq (by decide) (by omega)).mp y).symm
  refine mjZ_y rfl rfl 34 _ _ _ _ ty ?_
  refine (bn_t (ne 2 (by decide)) (bn_f (ne 6 (by decide)) (bn_t (ne 7 (by decide)) (bk_t rfl (bn_f (ne 13 (by decide)) (bn_f (ne 44 (by decide)) (bn_f (ne 49 (by decide)) (bn_f (ne 90 (by decide)) (bn_t (ne 21 (by decide)) (bn_f (fun n => n rfl) (And.intro (Nat.le_of_ble_eq_true rfl) (And.intro rfl (And.intro (Nat.le_of_ble_eq_true rfl) (And.intro (Nat.le_of_ble_eq_true rfl) (mjY_mono ty (fun q_ u2 ty2 h_ => ?_) (c_twoIntegers h ty h2 h3 (x := Int32.ofInt 2) (y := Int32.ofInt 3) rfl rfl))))))))))))))))
  obtain ⟨rfl, f2, w2, q2⟩ := h_
  intro _
  have f2o : Fr opFs oH u u2 := f2.up (by decide) (by decide)
  cases ht : twF v w with
  | none =>
    have e : sbR v w = none := by unfold sbR; rw [ht]; rfl
    rw [e]
    refine mjZ_y rfl rfl 1 _ _ _ _ ty2 ?_
    refine And.intro (fun c => ?_) (fun c => ?_)
    · exact absurd rfl c
    · refine mjZ_y rfl rfl 2 _ _ _ _ ty2 ?_
      refine And.intro rfl (And.intro (Or.inr ⟨rfl, Or.inl rfl⟩) ?_)
      exact ⟨rfl, f2o, w2, fun z => by cases z⟩
  | some q =>
    obtain ⟨e1, e2⟩ := q2 q ht
    have e : sbR v w = if q.1 < 0 ∨ 131071 < q.1 ∨ q.2 < 0 ∨ 1 < q.2 then none else some q := by unfold sbR; rw [ht]; rfl
    rw [e]
    have bad : (q.1 < 0 ∨ 131071 < q.1 ∨ q.2 < 0 ∨ 1 < q.2) → mjY mjPP (mjQQ Y) (d + 7) 72 122 [some (.ref 0), some (.int (nI 19))] [] u2 (opK u ws ks l (if q.1 < 0 ∨ 131071 < q.1 ∨ q.2 < 0 ∨ 1 < q.2 then none else some q).isSome (fun t => ∀ q', (if q.1 < 0 ∨ 131071 < q.1 ∨ q.2 < 0 ∨ 1 < q.2 then none else some q) = some q' → t.2.1 f_n1 = q'.1 ∧ t.2.1 f_n2 = q'.2)) := by
      intro y
      rw [if_pos y]
      refine mjZ_y rfl rfl 2 _ _ _ _ ty2 ?_
      refine (And.intro (Nat.le_of_ble_eq_true rfl) (And.intro rfl (And.intro (Nat.le_of_ble_eq_true rfl) (And.intro (Nat.le_of_ble_eq_true rfl) (mjY_mono ty2 (fun q_ u3 ty3 h_ => ?_) (w_outOfRange w2 ty2))))))
      obtain ⟨rfl, w3, f3⟩ := h_
      intro _
      refine mjZ_y rfl rfl 1 _ _ _ _ ty3 ?_
      refine And.intro rfl (And.intro (Or.inr ⟨rfl, Or.inl rfl⟩) ?_)
      exact ⟨rfl, f2o.tr f3.op, w3, fun z => by cases z⟩
    refine mjZ_y rfl rfl 1 _ _ _ _ ty2 ?_
    refine And.intro (fun c => ?_) (fun c => ?_)
    · refine mjZ_y rfl rfl 5 _ _ _ _ ty2 ?_
      refine (And.intro rfl (And.intro (fun a => ?_) (fun a => ?_)))
      · exact bad (Or.inl (by rw [← e1]; exact (lg_cmp_lt _ _).mp a))
      · refine mjZ_y rfl rfl 5 _ _ _ _ ty2 ?_
        refine (And.intro rfl (And.intro (fun b => ?_) (fun b => ?_)))
        · exact bad (Or.inr (Or.inl (by rw [← e1]; exact (lg_cmp_gt _ _).mp b)))
        · refine mjZ_y rfl rfl 5 _ _ _ _ ty2 ?_
          refine (And.intro rfl (And.intro (fun k => ?_) (fun k => ?_)))
          · exact bad (Or.inr (Or.inr (Or.inl (by rw [← e2]; exact (lg_cmp_lt _ _).mp k))))
          · refine mjZ_y rfl rfl 5 _ _ _ _ ty2 ?_
            refine (And.intro rfl (And.intro (fun g => ?_) (fun g => ?_)))
            · have y : ¬ (q.1 < 0 ∨ 131071 < q.1 ∨ q.2 < 0 ∨ 1 < q.2) := by
                rw [← e1, ← e2]
                intro y
                rcases y with y | y | y | y
                · exact a ((lg_cmp_lt _ _).mpr y)
                · exact b ((lg_cmp_gt _ _).mpr y)
                · exact k ((lg_cmp_lt _ _).mpr y)
                · exact Int64.not_le.mpr y ((lg_cmp_le _ _).mp g)
              rw [if_neg y]
              refine mjZ_y rfl rfl 2 _ _ _ _ ty2 ?_
              refine And.intro rfl (And.intro (Or.inr ⟨rfl, Or.inr rfl⟩) ?_)
              exact ⟨rfl, f2o, w2, fun _ q' y => by rw [← Option.some.inj y]; exact ⟨e1, e2⟩⟩
            · exact bad (Or.inr (Or.inr (Or.inr (by rw [← e2]; exact Int64.not_le.mp (fun y => g ((lg_cmp_le _ _).mpr y))))))
    · exact absurd (show ¬ (1 : Int32) = 0 by decide) c
set_option maxRecDepth 100000 in
theorem c_opt_14 {u : mjS} {ws : List (List Int32)} {ks : List KR} {l : List Int32} (h : Wd u ws ks l) (ty : mjTY u) (z : flZ u) {v : List Int32} (h2 : ws[2]? = some v) : mjY mjPP (mjQQ Y) (d + 7) 72 3 [some (.ref 0), some (.int (nI 14))] [] u (opK u ws ks l (srR false v).isSome (fun t => ∀ q, srR false v = some q → t.2.1 f_n1 = q)) := by
  have ne : ∀ c : Nat, c < 128 ∧ c ≠ 14 → ¬ nI 14 = nI c := fun c hc y => hc.2 ((nI_eq (by decide) (by omega)).mp y).symm
  refine mjZ_y rfl rfl 36 _ _ _ _ ty ?_
  refine (bn_t (ne 2 (by decide)) (bn_f (ne 6 (by decide)) (bn_t (ne 7 (by decide)) (bk_t rfl (bn_f (ne 13 (by decide)) (bn_f (ne 44 (by decide)) (bn_f (ne 49 (by decide)) (bn_f (ne 90 (by decide)) (bn_t (ne 21 (by decide)) (bn_t (ne 19 (by decide)) (bn_t rfl (And.intro (Nat.le_of_ble_eq_true rfl) (And.intro rfl (And.intro (Nat.le_of_ble_eq_true rfl) (And.intro (Nat.le_of_ble_eq_true rfl) (mjY_mono ty (fun q_ u2 ty2 h_ => ?_) (c_oneInteger h ty h2 (x := Int32.ofInt 2) rfl)))))))))))))))))
  obtain ⟨rfl, f2, w2, q2⟩ := h_
  intro _
  have f2o : Fr opFs oH u u2 := f2.up (by decide) (by decide)
  cases ht : intF v with
  | none =>
    have e : srR false v = none := by unfold srR; rw [ht]; rfl
    rw [e]
    refine mjZ_y rfl rfl 1 _ _ _ _ ty2 ?_
    refine And.intro (fun c => ?_) (fun c => ?_)
    · exact absurd rfl c
    · refine mjZ_y rfl rfl 2 _ _ _ _ ty2 ?_
      refine And.intro rfl (And.intro (Or.inr ⟨rfl, Or.inl rfl⟩) ?_)
      exact ⟨rfl, f2o, w2, fun z => by cases z⟩
  | some n =>
    have e1 := q2 n ht
    have e : srR false v = if n < 0 ∨ (false = true ∧ 131071 < n) then none else some n := by unfold srR; rw [ht]; rfl
    rw [e]
    have bad : (n < 0 ∨ (false = true ∧ 131071 < n)) → mjY mjPP (mjQQ Y) (d + 7) 72 152 [some (.ref 0), some (.int (nI 14))] [] u2 (opK u ws ks l (if n < 0 ∨ (false = true ∧ 131071 < n) then none else some n).isSome (fun t => ∀ q', (if n < 0 ∨ (false = true ∧ 131071 < n) then none else some n) = some q' → t.2.1 f_n1 = q')) := by
      intro y
      rw [if_pos y]
      refine mjZ_y rfl rfl 2 _ _ _ _ ty2 ?_
      refine (And.intro (Nat.le_of_ble_eq_true rfl) (And.intro rfl (And.intro (Nat.le_of_ble_eq_true rfl) (And.intro (Nat.le_of_ble_eq_true rfl) (mjY_mono ty2 (fun q_ u3 ty3 h_ => ?_) (w_outOfRange w2 ty2))))))
      obtain ⟨rfl, w3, f3⟩ := h_
      intro _
      refine mjZ_y rfl rfl 1 _ _ _ _ ty3 ?_
      refine And.intro rfl (And.intro (Or.inr ⟨rfl, Or.inl rfl⟩) ?_)
      exact ⟨rfl, f2o.tr f3.op, w3, fun z => by cases z⟩
    have good : ¬ (n < 0 ∨ (false = true ∧ 131071 < n)) → mjY mjPP (mjQQ Y) (d + 7) 72 155 [some (.ref 0), some (.int (nI 14))] [] u2 (opK u ws ks l (if n < 0 ∨ (false = true ∧ 131071 < n) then none else some n).isSome (fun t => ∀ q', (if n < 0 ∨ (false = true ∧ 131071 < n) then none else some n) = some q' → t.2.1 f_n1 = q')) := by
      intro y
      rw [if_neg y]
      refine mjZ_y rfl rfl 2 _ _ _ _ ty2 ?_
      refine And.intro rfl (And.intro (Or.inr ⟨rfl, Or.inr rfl⟩) ?_)
      exact ⟨rfl, f2o, w2, fun _ q' y => by rw [← Option.some.inj y]; exact e1⟩
    refine mjZ_y rfl rfl 1 _ _ _ _ ty2 ?_
    refine And.intro (fun c => ?_) (fun c => ?_)
    · refine mjZ_y rfl rfl 5 _ _ _ _ ty2 ?_
      refine (And.intro rfl (And.intro (fun a => ?_) (fun a => ?_)))
      · exact bad (Or.inl (by rw [← e1]; exact (lg_cmp_lt _ _).mp a))
      · have a : ¬ n < 0 := fun y => a ((lg_cmp_lt _ _).mpr (by rw [show u2.2.1 75 = n from e1]; exact y))
        refine mjZ_y rfl rfl 3 _ _ _ _ ty2 ?_
        refine (bn_t (ne 20 (by decide)) ?_)
        exact good (fun y => y.elim a (fun y => by cases y.1))
    · exact absurd (show ¬ (1 : Int32) = 0 by decide) c
set_option maxRecDepth 100000 in
theorem c_opt_20 {u : mjS} {ws : List (List Int32)} {ks : List KR} {l : List Int32} (h : Wd u ws ks l) (ty : mjTY u) (z : flZ u) {v : List Int32} (h2 : ws[2]? = some v) : mjY mjPP (mjQQ Y) (d + 7) 72 3 [some (.ref 0), some (.int (nI 20))] [] u (opK u ws ks l (srR true v).isSome (fun t => ∀ q, srR true v = some q → t.2.1 f_n1 = q)) := by
  have ne : ∀ c : Nat, c < 128 ∧ c ≠ 20 → ¬ nI 20 = nI c := fun c hc y => hc.2 ((nI_eq (by decide) (by omega)).mp y).symm
  refine mjZ_y rfl rfl 39 _ _ _ _ ty ?_
  refine (bn_t (ne 2 (by decide)) (bn_f (ne 6 (by decide)) (bn_t (ne 7 (by decide)) (bk_t rfl (bn_f (ne 13 (by decide)) (bn_f (ne 44 (by decide)) (bn_f (ne 49 (by decide)) (bn_f (ne 90 (by decide)) (bn_t (ne 21 (by decide)) (bn_t (ne 19 (by decide)) (bn_f (ne 14 (by decide)) (bn_f (fun n => n rfl) (And.intro (Nat.le_of_ble_eq_true rfl) (And.intro rfl (And.intro (Nat.le_of_ble_eq_true rfl) (And.intro (Nat.le_of_ble_eq_true rfl) (mjY_mono ty (fun q_ u2 ty2 h_ => ?_) (c_oneInteger h ty h2 (x := Int32.ofInt 2) rfl))))))))))))))))))
  obtain ⟨rfl, f2, w2, q2⟩ := h_
  intro _
  have f2o : Fr opFs oH u u2 := f2.up (by decide) (by decide)
  cases ht : intF v with
  | none =>
    have e : srR true v = none := by unfold srR; rw [ht]; rfl
    rw [e]
    refine mjZ_y rfl rfl 1 _ _ _ _ ty2 ?_
    refine And.intro (fun c => ?_) (fun c => ?_)
    · exact absurd rfl c
    · refine mjZ_y rfl rfl 2 _ _ _ _ ty2 ?_
      refine And.intro rfl (And.intro (Or.inr ⟨rfl, Or.inl rfl⟩) ?_)
      exact ⟨rfl, f2o, w2, fun z => by cases z⟩
  | some n =>
    have e1 := q2 n ht
    have e : srR true v = if n < 0 ∨ (true = true ∧ 131071 < n) then none else some n := by unfold srR; rw [ht]; rfl
    rw [e]
    have bad : (n < 0 ∨ (true = true ∧ 131071 < n)) → mjY mjPP (mjQQ Y) (d + 7) 72 152 [some (.ref 0), some (.int (nI 20))] [] u2 (opK u ws ks l (if n < 0 ∨ (true = true ∧ 131071 < n) then none else some n).isSome (fun t => ∀ q', (if n < 0 ∨ (true = true ∧ 131071 < n) then none else some n) = some q' → t.2.1 f_n1 = q')) := by
      intro y
      rw [if_pos y]
      refine mjZ_y rfl rfl 2 _ _ _ _ ty2 ?_
      refine (And.intro (Nat.le_of_ble_eq_true rfl) (And.intro rfl (And.intro (Nat.le_of_ble_eq_true rfl) (And.intro (Nat.le_of_ble_eq_true rfl) (mjY_mono ty2 (fun q_ u3 ty3 h_ => ?_) (w_outOfRange w2 ty2))))))
      obtain ⟨rfl, w3, f3⟩ := h_
      intro _
      refine mjZ_y rfl rfl 1 _ _ _ _ ty3 ?_
      refine And.intro rfl (And.intro (Or.inr ⟨rfl, Or.inl rfl⟩) ?_)
      exact ⟨rfl, f2o.tr f3.op, w3, fun z => by cases z⟩
    have good : ¬ (n < 0 ∨ (true = true ∧ 131071 < n)) → mjY mjPP (mjQQ Y) (d + 7) 72 155 [some (.ref 0), some (.int (nI 20))] [] u2 (opK u ws ks l (if n < 0 ∨ (true = true ∧ 131071 < n) then none else some n).isSome (fun t => ∀ q', (if n < 0 ∨ (true = true ∧ 131071 < n) then none else some n) = some q' → t.2.1 f_n1 = q')) := by
      intro y
      rw [if_neg y]
      refine mjZ_y rfl rfl 2 _ _ _ _ ty2 ?_
      refine And.intro rfl (And.intro (Or.inr ⟨rfl, Or.inr rfl⟩) ?_)
      exact ⟨rfl, f2o, w2, fun _ q' y => by rw [← Option.some.inj y]; exact e1⟩
    refine mjZ_y rfl rfl 1 _ _ _ _ ty2 ?_
    refine And.intro (fun c => ?_) (fun c => ?_)
    · refine mjZ_y rfl rfl 5 _ _ _ _ ty2 ?_
      refine (And.intro rfl (And.intro (fun a => ?_) (fun a => ?_)))
      · exact bad (Or.inl (by rw [← e1]; exact (lg_cmp_lt _ _).mp a))
      · have a : ¬ n < 0 := fun y => a ((lg_cmp_lt _ _).mpr (by rw [show u2.2.1 75 = n from e1]; exact y))
        refine mjZ_y rfl rfl 8 _ _ _ _ ty2 ?_
        refine (bn_f (fun n => n rfl) (And.intro rfl (And.intro (fun b => ?_) (fun b => ?_))))
        · exact good (fun y => y.elim a (fun y => Int64.not_le.mpr y.2 (by rw [← e1]; exact (lg_cmp_le _ _).mp b)))
        · exact bad (Or.inr ⟨rfl, by rw [← e1]; exact Int64.not_le.mp (fun y => b ((lg_cmp_le _ _).mpr y))⟩)
    · exact absurd (show ¬ (1 : Int32) = 0 by decide) c
end OPTZ